section
-- ===== PART A: goes FIRST, ahead of the names: the tables' words, and 'selects' of the private methods out of them =====
/-- a private method of a class that the tables say can be made, by its rows of tables_1 -/
def lw_okq (q : MethodName × Nat) : Prop := (q.1.cls ≠ "java/lang/invoke/MethodHandle" ∧ q.1.cls ≠ "java/lang/invoke/VarHandle") ∧ Cond.instantiable q.1.cls q.2 ∈ tables_1 ∧ Cond.privateMethod q.1 ∈ tables_1 ∧ Cond.instanceMethod q.1 ∈ tables_1
theorem lw_p0 : lw_okq (⟨"PieFunnels", "noShelf", "(I)Z"⟩, 12) := ⟨⟨by decide +kernel, by decide +kernel⟩, List.mem_of_getElem? (i := 17) (by decide +kernel), List.mem_of_getElem? (i := 280) (by decide +kernel), List.mem_of_getElem? (i := 281) (by decide +kernel)⟩
theorem lw_p1 : lw_okq (⟨"PieFunnels", "refuse", "(I)I"⟩, 12) := ⟨⟨by decide +kernel, by decide +kernel⟩, List.mem_of_getElem? (i := 17) (by decide +kernel), List.mem_of_getElem? (i := 284) (by decide +kernel), List.mem_of_getElem? (i := 285) (by decide +kernel)⟩
theorem lw_p2 : lw_okq (⟨"PieFunnels$Shelf", "holdRow", "(II)V"⟩, 5) := ⟨⟨by decide +kernel, by decide +kernel⟩, List.mem_of_getElem? (i := 206) (by decide +kernel), List.mem_of_getElem? (i := 288) (by decide +kernel), List.mem_of_getElem? (i := 289) (by decide +kernel)⟩
theorem lw_p3 : lw_okq (⟨"PieFunnels", "noRow", "(I)I"⟩, 12) := ⟨⟨by decide +kernel, by decide +kernel⟩, List.mem_of_getElem? (i := 17) (by decide +kernel), List.mem_of_getElem? (i := 302) (by decide +kernel), List.mem_of_getElem? (i := 303) (by decide +kernel)⟩
theorem lw_p4 : lw_okq (⟨"PieFunnels", "noRows", "(II)I"⟩, 12) := ⟨⟨by decide +kernel, by decide +kernel⟩, List.mem_of_getElem? (i := 17) (by decide +kernel), List.mem_of_getElem? (i := 306) (by decide +kernel), List.mem_of_getElem? (i := 307) (by decide +kernel)⟩
theorem lw_p5 : lw_okq (⟨"PieFunnels$Shelf", "put", "(IJ)V"⟩, 5) := ⟨⟨by decide +kernel, by decide +kernel⟩, List.mem_of_getElem? (i := 206) (by decide +kernel), List.mem_of_getElem? (i := 310) (by decide +kernel), List.mem_of_getElem? (i := 311) (by decide +kernel)⟩
theorem lw_p6 : lw_okq (⟨"PieFunnels$Shelf", "hasSpan", "(II)Z"⟩, 5) := ⟨⟨by decide +kernel, by decide +kernel⟩, List.mem_of_getElem? (i := 206) (by decide +kernel), List.mem_of_getElem? (i := 318) (by decide +kernel), List.mem_of_getElem? (i := 319) (by decide +kernel)⟩
theorem lw_p7 : lw_okq (⟨"PieFunnels$Shelf", "whole", "(I)J"⟩, 5) := ⟨⟨by decide +kernel, by decide +kernel⟩, List.mem_of_getElem? (i := 206) (by decide +kernel), List.mem_of_getElem? (i := 329) (by decide +kernel), List.mem_of_getElem? (i := 330) (by decide +kernel)⟩
theorem lw_p8 : lw_okq (⟨"PieFunnels$Shelf", "holdNothing", "()V"⟩, 5) := ⟨⟨by decide +kernel, by decide +kernel⟩, List.mem_of_getElem? (i := 206) (by decide +kernel), List.mem_of_getElem? (i := 337) (by decide +kernel), List.mem_of_getElem? (i := 338) (by decide +kernel)⟩
theorem lw_p9 : lw_okq (⟨"PieFunnels$Bakery", "lacks", "(I)Z"⟩, 11) := ⟨⟨by decide +kernel, by decide +kernel⟩, List.mem_of_getElem? (i := 27) (by decide +kernel), List.mem_of_getElem? (i := 341) (by decide +kernel), List.mem_of_getElem? (i := 342) (by decide +kernel)⟩
theorem lw_p10 : lw_okq (⟨"PieFunnels$Shelf", "holdBird", "(I)V"⟩, 5) := ⟨⟨by decide +kernel, by decide +kernel⟩, List.mem_of_getElem? (i := 206) (by decide +kernel), List.mem_of_getElem? (i := 345) (by decide +kernel), List.mem_of_getElem? (i := 346) (by decide +kernel)⟩
theorem lw_p11 : lw_okq (⟨"PieFunnels", "refuseFar", "(I)I"⟩, 12) := ⟨⟨by decide +kernel, by decide +kernel⟩, List.mem_of_getElem? (i := 17) (by decide +kernel), List.mem_of_getElem? (i := 357) (by decide +kernel), List.mem_of_getElem? (i := 358) (by decide +kernel)⟩
theorem lw_p12 : lw_okq (⟨"PieFunnels$Voice", "take", "(LPieFunnels$Bakery;I)V"⟩, 6) := ⟨⟨by decide +kernel, by decide +kernel⟩, List.mem_of_getElem? (i := 150) (by decide +kernel), List.mem_of_getElem? (i := 366) (by decide +kernel), List.mem_of_getElem? (i := 367) (by decide +kernel)⟩
theorem lw_p13 : lw_okq (⟨"PieFunnels$Pie", "setByNumber", "(II)V"⟩, 2) := ⟨⟨by decide +kernel, by decide +kernel⟩, List.mem_of_getElem? (i := 133) (by decide +kernel), List.mem_of_getElem? (i := 371) (by decide +kernel), List.mem_of_getElem? (i := 372) (by decide +kernel)⟩
theorem lw_p14 : lw_okq (⟨"PieFunnels$Voice", "speak", "(LPieFunnels$Pie;)V"⟩, 6) := ⟨⟨by decide +kernel, by decide +kernel⟩, List.mem_of_getElem? (i := 150) (by decide +kernel), List.mem_of_getElem? (i := 377) (by decide +kernel), List.mem_of_getElem? (i := 378) (by decide +kernel)⟩
theorem lw_p15 : lw_okq (⟨"PieFunnels$Voice", "sayLayers", "(LPieFunnels$Pie;)V"⟩, 6) := ⟨⟨by decide +kernel, by decide +kernel⟩, List.mem_of_getElem? (i := 150) (by decide +kernel), List.mem_of_getElem? (i := 381) (by decide +kernel), List.mem_of_getElem? (i := 382) (by decide +kernel)⟩
def lw_privs_1 : List (MethodName × Nat) := [(⟨"PieFunnels", "noShelf", "(I)Z"⟩, 12), (⟨"PieFunnels", "refuse", "(I)I"⟩, 12), (⟨"PieFunnels$Shelf", "holdRow", "(II)V"⟩, 5), (⟨"PieFunnels", "noRow", "(I)I"⟩, 12), (⟨"PieFunnels", "noRows", "(II)I"⟩, 12), (⟨"PieFunnels$Shelf", "put", "(IJ)V"⟩, 5), (⟨"PieFunnels$Shelf", "hasSpan", "(II)Z"⟩, 5), (⟨"PieFunnels$Shelf", "whole", "(I)J"⟩, 5), (⟨"PieFunnels$Shelf", "holdNothing", "()V"⟩, 5), (⟨"PieFunnels$Bakery", "lacks", "(I)Z"⟩, 11), (⟨"PieFunnels$Shelf", "holdBird", "(I)V"⟩, 5), (⟨"PieFunnels", "refuseFar", "(I)I"⟩, 12), (⟨"PieFunnels$Voice", "take", "(LPieFunnels$Bakery;I)V"⟩, 6), (⟨"PieFunnels$Pie", "setByNumber", "(II)V"⟩, 2), (⟨"PieFunnels$Voice", "speak", "(LPieFunnels$Pie;)V"⟩, 6), (⟨"PieFunnels$Voice", "sayLayers", "(LPieFunnels$Pie;)V"⟩, 6)]
theorem lw_r1 : ∀ q ∈ lw_privs_1, lw_okq q := List.forall_mem_cons.mpr ⟨lw_p0, List.forall_mem_cons.mpr ⟨lw_p1, List.forall_mem_cons.mpr ⟨lw_p2, List.forall_mem_cons.mpr ⟨lw_p3, List.forall_mem_cons.mpr ⟨lw_p4, List.forall_mem_cons.mpr ⟨lw_p5, List.forall_mem_cons.mpr ⟨lw_p6, List.forall_mem_cons.mpr ⟨lw_p7, List.forall_mem_cons.mpr ⟨lw_p8, List.forall_mem_cons.mpr ⟨lw_p9, List.forall_mem_cons.mpr ⟨lw_p10, List.forall_mem_cons.mpr ⟨lw_p11, List.forall_mem_cons.mpr ⟨lw_p12, List.forall_mem_cons.mpr ⟨lw_p13, List.forall_mem_cons.mpr ⟨lw_p14, List.forall_mem_cons.mpr ⟨lw_p15, fun _ h => absurd h List.not_mem_nil⟩⟩⟩⟩⟩⟩⟩⟩⟩⟩⟩⟩⟩⟩⟩⟩
theorem lw_p16 : lw_okq (⟨"PieFunnels$Voice", "chip", "()V"⟩, 6) := ⟨⟨by decide +kernel, by decide +kernel⟩, List.mem_of_getElem? (i := 150) (by decide +kernel), List.mem_of_getElem? (i := 387) (by decide +kernel), List.mem_of_getElem? (i := 388) (by decide +kernel)⟩
theorem lw_p17 : lw_okq (⟨"PieFunnels$Voice", "turn", "()V"⟩, 6) := ⟨⟨by decide +kernel, by decide +kernel⟩, List.mem_of_getElem? (i := 150) (by decide +kernel), List.mem_of_getElem? (i := 391) (by decide +kernel), List.mem_of_getElem? (i := 392) (by decide +kernel)⟩
theorem lw_p18 : lw_okq (⟨"PieFunnels$Voice", "swap", "(II)V"⟩, 6) := ⟨⟨by decide +kernel, by decide +kernel⟩, List.mem_of_getElem? (i := 150) (by decide +kernel), List.mem_of_getElem? (i := 395) (by decide +kernel), List.mem_of_getElem? (i := 396) (by decide +kernel)⟩
theorem lw_p19 : lw_okq (⟨"PieFunnels$Voice", "raise", "()V"⟩, 6) := ⟨⟨by decide +kernel, by decide +kernel⟩, List.mem_of_getElem? (i := 150) (by decide +kernel), List.mem_of_getElem? (i := 399) (by decide +kernel), List.mem_of_getElem? (i := 400) (by decide +kernel)⟩
theorem lw_p20 : lw_okq (⟨"PieFunnels$Voice", "order", "()V"⟩, 6) := ⟨⟨by decide +kernel, by decide +kernel⟩, List.mem_of_getElem? (i := 150) (by decide +kernel), List.mem_of_getElem? (i := 403) (by decide +kernel), List.mem_of_getElem? (i := 404) (by decide +kernel)⟩
theorem lw_p21 : lw_okq (⟨"PieFunnels$Voice", "doubleEach", "()V"⟩, 6) := ⟨⟨by decide +kernel, by decide +kernel⟩, List.mem_of_getElem? (i := 150) (by decide +kernel), List.mem_of_getElem? (i := 407) (by decide +kernel), List.mem_of_getElem? (i := 408) (by decide +kernel)⟩
theorem lw_p22 : lw_okq (⟨"PieFunnels$Voice", "keepEachSecond", "()V"⟩, 6) := ⟨⟨by decide +kernel, by decide +kernel⟩, List.mem_of_getElem? (i := 150) (by decide +kernel), List.mem_of_getElem? (i := 411) (by decide +kernel), List.mem_of_getElem? (i := 412) (by decide +kernel)⟩
theorem lw_p23 : lw_okq (⟨"PieFunnels$Bakery", "add", "(III)V"⟩, 11) := ⟨⟨by decide +kernel, by decide +kernel⟩, List.mem_of_getElem? (i := 27) (by decide +kernel), List.mem_of_getElem? (i := 419) (by decide +kernel), List.mem_of_getElem? (i := 420) (by decide +kernel)⟩
theorem lw_p24 : lw_okq (⟨"PieFunnels$Bakery", "comingBy", "(II)I"⟩, 11) := ⟨⟨by decide +kernel, by decide +kernel⟩, List.mem_of_getElem? (i := 27) (by decide +kernel), List.mem_of_getElem? (i := 431) (by decide +kernel), List.mem_of_getElem? (i := 432) (by decide +kernel)⟩
theorem lw_p25 : lw_okq (⟨"PieFunnels$Bakery", "setComing", "(III)V"⟩, 11) := ⟨⟨by decide +kernel, by decide +kernel⟩, List.mem_of_getElem? (i := 27) (by decide +kernel), List.mem_of_getElem? (i := 435) (by decide +kernel), List.mem_of_getElem? (i := 436) (by decide +kernel)⟩
theorem lw_p26 : lw_okq (⟨"PieFunnels$Bakery", "become", "(LPieFunnels$Bakery;)V"⟩, 11) := ⟨⟨by decide +kernel, by decide +kernel⟩, List.mem_of_getElem? (i := 27) (by decide +kernel), List.mem_of_getElem? (i := 452) (by decide +kernel), List.mem_of_getElem? (i := 453) (by decide +kernel)⟩
theorem lw_p27 : lw_okq (⟨"PieFunnels$Reader", "read", "(LPieFunnels$Shelf;LPieFunnels$Bakery;)I"⟩, 4) := ⟨⟨by decide +kernel, by decide +kernel⟩, List.mem_of_getElem? (i := 88) (by decide +kernel), List.mem_of_getElem? (i := 457) (by decide +kernel), List.mem_of_getElem? (i := 458) (by decide +kernel)⟩
theorem lw_p28 : lw_okq (⟨"PieFunnels$Reader", "expect", "(C)V"⟩, 4) := ⟨⟨by decide +kernel, by decide +kernel⟩, List.mem_of_getElem? (i := 88) (by decide +kernel), List.mem_of_getElem? (i := 461) (by decide +kernel), List.mem_of_getElem? (i := 462) (by decide +kernel)⟩
theorem lw_p29 : lw_okq (⟨"PieFunnels$Reader", "letter", "()I"⟩, 4) := ⟨⟨by decide +kernel, by decide +kernel⟩, List.mem_of_getElem? (i := 88) (by decide +kernel), List.mem_of_getElem? (i := 465) (by decide +kernel), List.mem_of_getElem? (i := 466) (by decide +kernel)⟩
theorem lw_p30 : lw_okq (⟨"PieFunnels$Reader", "fail", "(I)V"⟩, 4) := ⟨⟨by decide +kernel, by decide +kernel⟩, List.mem_of_getElem? (i := 88) (by decide +kernel), List.mem_of_getElem? (i := 469) (by decide +kernel), List.mem_of_getElem? (i := 470) (by decide +kernel)⟩
theorem lw_p31 : lw_okq (⟨"PieFunnels$Reader", "readItem", "(LPieFunnels$Bakery;)V"⟩, 4) := ⟨⟨by decide +kernel, by decide +kernel⟩, List.mem_of_getElem? (i := 88) (by decide +kernel), List.mem_of_getElem? (i := 473) (by decide +kernel), List.mem_of_getElem? (i := 474) (by decide +kernel)⟩
def lw_privs_2 : List (MethodName × Nat) := [(⟨"PieFunnels$Voice", "chip", "()V"⟩, 6), (⟨"PieFunnels$Voice", "turn", "()V"⟩, 6), (⟨"PieFunnels$Voice", "swap", "(II)V"⟩, 6), (⟨"PieFunnels$Voice", "raise", "()V"⟩, 6), (⟨"PieFunnels$Voice", "order", "()V"⟩, 6), (⟨"PieFunnels$Voice", "doubleEach", "()V"⟩, 6), (⟨"PieFunnels$Voice", "keepEachSecond", "()V"⟩, 6), (⟨"PieFunnels$Bakery", "add", "(III)V"⟩, 11), (⟨"PieFunnels$Bakery", "comingBy", "(II)I"⟩, 11), (⟨"PieFunnels$Bakery", "setComing", "(III)V"⟩, 11), (⟨"PieFunnels$Bakery", "become", "(LPieFunnels$Bakery;)V"⟩, 11), (⟨"PieFunnels$Reader", "read", "(LPieFunnels$Shelf;LPieFunnels$Bakery;)I"⟩, 4), (⟨"PieFunnels$Reader", "expect", "(C)V"⟩, 4), (⟨"PieFunnels$Reader", "letter", "()I"⟩, 4), (⟨"PieFunnels$Reader", "fail", "(I)V"⟩, 4), (⟨"PieFunnels$Reader", "readItem", "(LPieFunnels$Bakery;)V"⟩, 4)]
theorem lw_r2 : ∀ q ∈ lw_privs_2, lw_okq q := List.forall_mem_cons.mpr ⟨lw_p16, List.forall_mem_cons.mpr ⟨lw_p17, List.forall_mem_cons.mpr ⟨lw_p18, List.forall_mem_cons.mpr ⟨lw_p19, List.forall_mem_cons.mpr ⟨lw_p20, List.forall_mem_cons.mpr ⟨lw_p21, List.forall_mem_cons.mpr ⟨lw_p22, List.forall_mem_cons.mpr ⟨lw_p23, List.forall_mem_cons.mpr ⟨lw_p24, List.forall_mem_cons.mpr ⟨lw_p25, List.forall_mem_cons.mpr ⟨lw_p26, List.forall_mem_cons.mpr ⟨lw_p27, List.forall_mem_cons.mpr ⟨lw_p28, List.forall_mem_cons.mpr ⟨lw_p29, List.forall_mem_cons.mpr ⟨lw_p30, List.forall_mem_cons.mpr ⟨lw_p31, fun _ h => absurd h List.not_mem_nil⟩⟩⟩⟩⟩⟩⟩⟩⟩⟩⟩⟩⟩⟩⟩⟩
theorem lw_p32 : lw_okq (⟨"PieFunnels$Reader", "readNumber", "(I)I"⟩, 4) := ⟨⟨by decide +kernel, by decide +kernel⟩, List.mem_of_getElem? (i := 88) (by decide +kernel), List.mem_of_getElem? (i := 545) (by decide +kernel), List.mem_of_getElem? (i := 546) (by decide +kernel)⟩
theorem lw_p33 : lw_okq (⟨"PieFunnels$Reader", "digit", "()I"⟩, 4) := ⟨⟨by decide +kernel, by decide +kernel⟩, List.mem_of_getElem? (i := 88) (by decide +kernel), List.mem_of_getElem? (i := 549) (by decide +kernel), List.mem_of_getElem? (i := 550) (by decide +kernel)⟩
theorem lw_p34 : lw_okq (⟨"PieFunnels$Reader", "tell", "(LPieFunnels$Bakery;I)V"⟩, 4) := ⟨⟨by decide +kernel, by decide +kernel⟩, List.mem_of_getElem? (i := 88) (by decide +kernel), List.mem_of_getElem? (i := 553) (by decide +kernel), List.mem_of_getElem? (i := 554) (by decide +kernel)⟩
theorem lw_p35 : lw_okq (⟨"PieFunnels", "noPieOf", "(II)I"⟩, 12) := ⟨⟨by decide +kernel, by decide +kernel⟩, List.mem_of_getElem? (i := 17) (by decide +kernel), List.mem_of_getElem? (i := 568) (by decide +kernel), List.mem_of_getElem? (i := 569) (by decide +kernel)⟩
theorem lw_p36 : lw_okq (⟨"PieFunnels", "noPieOfWhat", "(IIII)I"⟩, 12) := ⟨⟨by decide +kernel, by decide +kernel⟩, List.mem_of_getElem? (i := 17) (by decide +kernel), List.mem_of_getElem? (i := 572) (by decide +kernel), List.mem_of_getElem? (i := 573) (by decide +kernel)⟩
theorem lw_p37 : lw_okq (⟨"PieFunnels$Pie", "take", "(LPieFunnels$Shelf;I)Z"⟩, 2) := ⟨⟨by decide +kernel, by decide +kernel⟩, List.mem_of_getElem? (i := 133) (by decide +kernel), List.mem_of_getElem? (i := 576) (by decide +kernel), List.mem_of_getElem? (i := 577) (by decide +kernel)⟩
theorem lw_p38 : lw_okq (⟨"PieFunnels$Shelf", "number", "(I)I"⟩, 5) := ⟨⟨by decide +kernel, by decide +kernel⟩, List.mem_of_getElem? (i := 206) (by decide +kernel), List.mem_of_getElem? (i := 580) (by decide +kernel), List.mem_of_getElem? (i := 581) (by decide +kernel)⟩
theorem lw_p39 : lw_okq (⟨"PieFunnels$Bakery", "endOf", "(LPieFunnels$Voice;I)I"⟩, 11) := ⟨⟨by decide +kernel, by decide +kernel⟩, List.mem_of_getElem? (i := 27) (by decide +kernel), List.mem_of_getElem? (i := 589) (by decide +kernel), List.mem_of_getElem? (i := 590) (by decide +kernel)⟩
theorem lw_p40 : lw_okq (⟨"PieFunnels$Bakery", "illsOf", "(LPieFunnels$Voice;)I"⟩, 11) := ⟨⟨by decide +kernel, by decide +kernel⟩, List.mem_of_getElem? (i := 27) (by decide +kernel), List.mem_of_getElem? (i := 593) (by decide +kernel), List.mem_of_getElem? (i := 594) (by decide +kernel)⟩
theorem lw_p41 : lw_okq (⟨"PieFunnels", "findBringing", "(II)Z"⟩, 12) := ⟨⟨by decide +kernel, by decide +kernel⟩, List.mem_of_getElem? (i := 17) (by decide +kernel), List.mem_of_getElem? (i := 601) (by decide +kernel), List.mem_of_getElem? (i := 602) (by decide +kernel)⟩
theorem lw_p42 : lw_okq (⟨"PieFunnels", "kindsThatSay", "(LPieFunnels$Shelf;I)I"⟩, 12) := ⟨⟨by decide +kernel, by decide +kernel⟩, List.mem_of_getElem? (i := 17) (by decide +kernel), List.mem_of_getElem? (i := 616) (by decide +kernel), List.mem_of_getElem? (i := 617) (by decide +kernel)⟩
theorem lw_p43 : lw_okq (⟨"PieFunnels$Voice", "saysJust", "(LPieFunnels$Shelf;)Z"⟩, 6) := ⟨⟨by decide +kernel, by decide +kernel⟩, List.mem_of_getElem? (i := 150) (by decide +kernel), List.mem_of_getElem? (i := 620) (by decide +kernel), List.mem_of_getElem? (i := 621) (by decide +kernel)⟩
theorem lw_p44 : lw_okq (⟨"PieFunnels", "heatsThatSay", "(LPieFunnels$Shelf;I)I"⟩, 12) := ⟨⟨by decide +kernel, by decide +kernel⟩, List.mem_of_getElem? (i := 17) (by decide +kernel), List.mem_of_getElem? (i := 625) (by decide +kernel), List.mem_of_getElem? (i := 626) (by decide +kernel)⟩
theorem lw_p45 : lw_okq (⟨"PieFunnels", "mouthsThatSay", "(LPieFunnels$Shelf;I)I"⟩, 12) := ⟨⟨by decide +kernel, by decide +kernel⟩, List.mem_of_getElem? (i := 17) (by decide +kernel), List.mem_of_getElem? (i := 629) (by decide +kernel), List.mem_of_getElem? (i := 630) (by decide +kernel)⟩
theorem lw_p46 : lw_okq (⟨"PieFunnels", "mostLeft", "(I)I"⟩, 12) := ⟨⟨by decide +kernel, by decide +kernel⟩, List.mem_of_getElem? (i := 17) (by decide +kernel), List.mem_of_getElem? (i := 641) (by decide +kernel), List.mem_of_getElem? (i := 642) (by decide +kernel)⟩
theorem lw_p47 : lw_okq (⟨"PieFunnels$Voice", "saysSame", "(LPieFunnels$Voice;)Z"⟩, 6) := ⟨⟨by decide +kernel, by decide +kernel⟩, List.mem_of_getElem? (i := 150) (by decide +kernel), List.mem_of_getElem? (i := 645) (by decide +kernel), List.mem_of_getElem? (i := 646) (by decide +kernel)⟩
def lw_privs_3 : List (MethodName × Nat) := [(⟨"PieFunnels$Reader", "readNumber", "(I)I"⟩, 4), (⟨"PieFunnels$Reader", "digit", "()I"⟩, 4), (⟨"PieFunnels$Reader", "tell", "(LPieFunnels$Bakery;I)V"⟩, 4), (⟨"PieFunnels", "noPieOf", "(II)I"⟩, 12), (⟨"PieFunnels", "noPieOfWhat", "(IIII)I"⟩, 12), (⟨"PieFunnels$Pie", "take", "(LPieFunnels$Shelf;I)Z"⟩, 2), (⟨"PieFunnels$Shelf", "number", "(I)I"⟩, 5), (⟨"PieFunnels$Bakery", "endOf", "(LPieFunnels$Voice;I)I"⟩, 11), (⟨"PieFunnels$Bakery", "illsOf", "(LPieFunnels$Voice;)I"⟩, 11), (⟨"PieFunnels", "findBringing", "(II)Z"⟩, 12), (⟨"PieFunnels", "kindsThatSay", "(LPieFunnels$Shelf;I)I"⟩, 12), (⟨"PieFunnels$Voice", "saysJust", "(LPieFunnels$Shelf;)Z"⟩, 6), (⟨"PieFunnels", "heatsThatSay", "(LPieFunnels$Shelf;I)I"⟩, 12), (⟨"PieFunnels", "mouthsThatSay", "(LPieFunnels$Shelf;I)I"⟩, 12), (⟨"PieFunnels", "mostLeft", "(I)I"⟩, 12), (⟨"PieFunnels$Voice", "saysSame", "(LPieFunnels$Voice;)Z"⟩, 6)]
theorem lw_r3 : ∀ q ∈ lw_privs_3, lw_okq q := List.forall_mem_cons.mpr ⟨lw_p32, List.forall_mem_cons.mpr ⟨lw_p33, List.forall_mem_cons.mpr ⟨lw_p34, List.forall_mem_cons.mpr ⟨lw_p35, List.forall_mem_cons.mpr ⟨lw_p36, List.forall_mem_cons.mpr ⟨lw_p37, List.forall_mem_cons.mpr ⟨lw_p38, List.forall_mem_cons.mpr ⟨lw_p39, List.forall_mem_cons.mpr ⟨lw_p40, List.forall_mem_cons.mpr ⟨lw_p41, List.forall_mem_cons.mpr ⟨lw_p42, List.forall_mem_cons.mpr ⟨lw_p43, List.forall_mem_cons.mpr ⟨lw_p44, List.forall_mem_cons.mpr ⟨lw_p45, List.forall_mem_cons.mpr ⟨lw_p46, List.forall_mem_cons.mpr ⟨lw_p47, fun _ h => absurd h List.not_mem_nil⟩⟩⟩⟩⟩⟩⟩⟩⟩⟩⟩⟩⟩⟩⟩⟩
theorem lw_p48 : lw_okq (⟨"PieFunnels$Pie", "unknowns", "()I"⟩, 2) := ⟨⟨by decide +kernel, by decide +kernel⟩, List.mem_of_getElem? (i := 133) (by decide +kernel), List.mem_of_getElem? (i := 654) (by decide +kernel), List.mem_of_getElem? (i := 655) (by decide +kernel)⟩
theorem lw_p49 : lw_okq (⟨"PieFunnels$Pie", "fillUnknowns", "(I)V"⟩, 2) := ⟨⟨by decide +kernel, by decide +kernel⟩, List.mem_of_getElem? (i := 133) (by decide +kernel), List.mem_of_getElem? (i := 658) (by decide +kernel), List.mem_of_getElem? (i := 659) (by decide +kernel)⟩
theorem lw_p50 : lw_okq (⟨"PieFunnels", "fewestIllsByLast", "()I"⟩, 12) := ⟨⟨by decide +kernel, by decide +kernel⟩, List.mem_of_getElem? (i := 17) (by decide +kernel), List.mem_of_getElem? (i := 675) (by decide +kernel), List.mem_of_getElem? (i := 676) (by decide +kernel)⟩
theorem lw_p51 : lw_okq (⟨"PieFunnels$Pie", "setLast", "(I)V"⟩, 2) := ⟨⟨by decide +kernel, by decide +kernel⟩, List.mem_of_getElem? (i := 133) (by decide +kernel), List.mem_of_getElem? (i := 680) (by decide +kernel), List.mem_of_getElem? (i := 681) (by decide +kernel)⟩
theorem lw_p52 : lw_okq (⟨"PieFunnels$Parting", "takeWishes", "(LPieFunnels$Shelf;)Z"⟩, 5) := ⟨⟨by decide +kernel, by decide +kernel⟩, List.mem_of_getElem? (i := 183) (by decide +kernel), List.mem_of_getElem? (i := 689) (by decide +kernel), List.mem_of_getElem? (i := 690) (by decide +kernel)⟩
theorem lw_p53 : lw_okq (⟨"PieFunnels$Parting", "bringsOf", "(II)V"⟩, 5) := ⟨⟨by decide +kernel, by decide +kernel⟩, List.mem_of_getElem? (i := 183) (by decide +kernel), List.mem_of_getElem? (i := 694) (by decide +kernel), List.mem_of_getElem? (i := 695) (by decide +kernel)⟩
theorem lw_p54 : lw_okq (⟨"PieFunnels$Parting", "part", "(I)V"⟩, 5) := ⟨⟨by decide +kernel, by decide +kernel⟩, List.mem_of_getElem? (i := 183) (by decide +kernel), List.mem_of_getElem? (i := 698) (by decide +kernel), List.mem_of_getElem? (i := 699) (by decide +kernel)⟩
theorem lw_p55 : lw_okq (⟨"PieFunnels$Parting", "firstLeft", "(II)I"⟩, 5) := ⟨⟨by decide +kernel, by decide +kernel⟩, List.mem_of_getElem? (i := 183) (by decide +kernel), List.mem_of_getElem? (i := 702) (by decide +kernel), List.mem_of_getElem? (i := 703) (by decide +kernel)⟩
theorem lw_p56 : lw_okq (⟨"PieFunnels$Parting", "whomHas", "(I)I"⟩, 5) := ⟨⟨by decide +kernel, by decide +kernel⟩, List.mem_of_getElem? (i := 183) (by decide +kernel), List.mem_of_getElem? (i := 706) (by decide +kernel), List.mem_of_getElem? (i := 707) (by decide +kernel)⟩
theorem lw_p57 : lw_okq (⟨"PieFunnels", "bakeInTruth", "(I)V"⟩, 12) := ⟨⟨by decide +kernel, by decide +kernel⟩, List.mem_of_getElem? (i := 17) (by decide +kernel), List.mem_of_getElem? (i := 723) (by decide +kernel), List.mem_of_getElem? (i := 724) (by decide +kernel)⟩
theorem lw_p58 : lw_okq (⟨"PieFunnels$Bakery", "draw", "(I)I"⟩, 11) := ⟨⟨by decide +kernel, by decide +kernel⟩, List.mem_of_getElem? (i := 27) (by decide +kernel), List.mem_of_getElem? (i := 731) (by decide +kernel), List.mem_of_getElem? (i := 732) (by decide +kernel)⟩
theorem lw_p59 : lw_okq (⟨"PieFunnels$Moves", "forget", "()V"⟩, 5) := ⟨⟨by decide +kernel, by decide +kernel⟩, List.mem_of_getElem? (i := 108) (by decide +kernel), List.mem_of_getElem? (i := 744) (by decide +kernel), List.mem_of_getElem? (i := 745) (by decide +kernel)⟩
theorem lw_p60 : lw_okq (⟨"PieFunnels$Moves", "take", "(LPieFunnels$Bakery;I)V"⟩, 5) := ⟨⟨by decide +kernel, by decide +kernel⟩, List.mem_of_getElem? (i := 108) (by decide +kernel), List.mem_of_getElem? (i := 748) (by decide +kernel), List.mem_of_getElem? (i := 749) (by decide +kernel)⟩
theorem lw_p61 : lw_okq (⟨"PieFunnels$Moves", "begin", "(I)V"⟩, 5) := ⟨⟨by decide +kernel, by decide +kernel⟩, List.mem_of_getElem? (i := 108) (by decide +kernel), List.mem_of_getElem? (i := 762) (by decide +kernel), List.mem_of_getElem? (i := 763) (by decide +kernel)⟩
theorem lw_p62 : lw_okq (⟨"PieFunnels$Moves", "traced", "()I"⟩, 5) := ⟨⟨by decide +kernel, by decide +kernel⟩, List.mem_of_getElem? (i := 108) (by decide +kernel), List.mem_of_getElem? (i := 771) (by decide +kernel), List.mem_of_getElem? (i := 772) (by decide +kernel)⟩
theorem lw_p63 : lw_okq (⟨"PieFunnelsModel", "no", "(I)I"⟩, 37) := ⟨⟨by decide +kernel, by decide +kernel⟩, List.mem_of_getElem? (i := 788) (by decide +kernel), List.mem_of_getElem? (i := 913) (by decide +kernel), List.mem_of_getElem? (i := 914) (by decide +kernel)⟩
def lw_privs_4 : List (MethodName × Nat) := [(⟨"PieFunnels$Pie", "unknowns", "()I"⟩, 2), (⟨"PieFunnels$Pie", "fillUnknowns", "(I)V"⟩, 2), (⟨"PieFunnels", "fewestIllsByLast", "()I"⟩, 12), (⟨"PieFunnels$Pie", "setLast", "(I)V"⟩, 2), (⟨"PieFunnels$Parting", "takeWishes", "(LPieFunnels$Shelf;)Z"⟩, 5), (⟨"PieFunnels$Parting", "bringsOf", "(II)V"⟩, 5), (⟨"PieFunnels$Parting", "part", "(I)V"⟩, 5), (⟨"PieFunnels$Parting", "firstLeft", "(II)I"⟩, 5), (⟨"PieFunnels$Parting", "whomHas", "(I)I"⟩, 5), (⟨"PieFunnels", "bakeInTruth", "(I)V"⟩, 12), (⟨"PieFunnels$Bakery", "draw", "(I)I"⟩, 11), (⟨"PieFunnels$Moves", "forget", "()V"⟩, 5), (⟨"PieFunnels$Moves", "take", "(LPieFunnels$Bakery;I)V"⟩, 5), (⟨"PieFunnels$Moves", "begin", "(I)V"⟩, 5), (⟨"PieFunnels$Moves", "traced", "()I"⟩, 5), (⟨"PieFunnelsModel", "no", "(I)I"⟩, 37)]
theorem lw_r4 : ∀ q ∈ lw_privs_4, lw_okq q := List.forall_mem_cons.mpr ⟨lw_p48, List.forall_mem_cons.mpr ⟨lw_p49, List.forall_mem_cons.mpr ⟨lw_p50, List.forall_mem_cons.mpr ⟨lw_p51, List.forall_mem_cons.mpr ⟨lw_p52, List.forall_mem_cons.mpr ⟨lw_p53, List.forall_mem_cons.mpr ⟨lw_p54, List.forall_mem_cons.mpr ⟨lw_p55, List.forall_mem_cons.mpr ⟨lw_p56, List.forall_mem_cons.mpr ⟨lw_p57, List.forall_mem_cons.mpr ⟨lw_p58, List.forall_mem_cons.mpr ⟨lw_p59, List.forall_mem_cons.mpr ⟨lw_p60, List.forall_mem_cons.mpr ⟨lw_p61, List.forall_mem_cons.mpr ⟨lw_p62, List.forall_mem_cons.mpr ⟨lw_p63, fun _ h => absurd h List.not_mem_nil⟩⟩⟩⟩⟩⟩⟩⟩⟩⟩⟩⟩⟩⟩⟩⟩
theorem lw_p64 : lw_okq (⟨"PieFunnelsModel", "noRow", "(I)I"⟩, 37) := ⟨⟨by decide +kernel, by decide +kernel⟩, List.mem_of_getElem? (i := 788) (by decide +kernel), List.mem_of_getElem? (i := 921) (by decide +kernel), List.mem_of_getElem? (i := 922) (by decide +kernel)⟩
theorem lw_p65 : lw_okq (⟨"PieFunnelsModel", "isRow", "(I)Z"⟩, 37) := ⟨⟨by decide +kernel, by decide +kernel⟩, List.mem_of_getElem? (i := 788) (by decide +kernel), List.mem_of_getElem? (i := 925) (by decide +kernel), List.mem_of_getElem? (i := 926) (by decide +kernel)⟩
theorem lw_p66 : lw_okq (⟨"PieFunnelsModel", "isBird", "(I)Z"⟩, 37) := ⟨⟨by decide +kernel, by decide +kernel⟩, List.mem_of_getElem? (i := 788) (by decide +kernel), List.mem_of_getElem? (i := 941) (by decide +kernel), List.mem_of_getElem? (i := 942) (by decide +kernel)⟩
theorem lw_p67 : lw_okq (⟨"PieFunnelsModel", "no10", "(I)I"⟩, 37) := ⟨⟨by decide +kernel, by decide +kernel⟩, List.mem_of_getElem? (i := 788) (by decide +kernel), List.mem_of_getElem? (i := 953) (by decide +kernel), List.mem_of_getElem? (i := 954) (by decide +kernel)⟩
theorem lw_p68 : lw_okq (⟨"PieFunnelsModel", "tells", "(I)V"⟩, 37) := ⟨⟨by decide +kernel, by decide +kernel⟩, List.mem_of_getElem? (i := 788) (by decide +kernel), List.mem_of_getElem? (i := 963) (by decide +kernel), List.mem_of_getElem? (i := 964) (by decide +kernel)⟩
theorem lw_p69 : lw_okq (⟨"PieFunnelsModel", "chipped", "(II)I"⟩, 37) := ⟨⟨by decide +kernel, by decide +kernel⟩, List.mem_of_getElem? (i := 788) (by decide +kernel), List.mem_of_getElem? (i := 968) (by decide +kernel), List.mem_of_getElem? (i := 969) (by decide +kernel)⟩
theorem lw_p70 : lw_okq (⟨"PieFunnelsModel", "plain", "(II)I"⟩, 37) := ⟨⟨by decide +kernel, by decide +kernel⟩, List.mem_of_getElem? (i := 788) (by decide +kernel), List.mem_of_getElem? (i := 972) (by decide +kernel), List.mem_of_getElem? (i := 973) (by decide +kernel)⟩
theorem lw_p71 : lw_okq (⟨"PieFunnelsModel", "widowed", "(II)I"⟩, 37) := ⟨⟨by decide +kernel, by decide +kernel⟩, List.mem_of_getElem? (i := 788) (by decide +kernel), List.mem_of_getElem? (i := 976) (by decide +kernel), List.mem_of_getElem? (i := 977) (by decide +kernel)⟩
theorem lw_p72 : lw_okq (⟨"PieFunnelsModel", "sorts", "()V"⟩, 37) := ⟨⟨by decide +kernel, by decide +kernel⟩, List.mem_of_getElem? (i := 788) (by decide +kernel), List.mem_of_getElem? (i := 980) (by decide +kernel), List.mem_of_getElem? (i := 981) (by decide +kernel)⟩
theorem lw_p73 : lw_okq (⟨"PieFunnelsModel", "newBird", "(III)I"⟩, 37) := ⟨⟨by decide +kernel, by decide +kernel⟩, List.mem_of_getElem? (i := 788) (by decide +kernel), List.mem_of_getElem? (i := 988) (by decide +kernel), List.mem_of_getElem? (i := 989) (by decide +kernel)⟩
theorem lw_p74 : lw_okq (⟨"PieFunnelsModel", "keep", "([I)V"⟩, 37) := ⟨⟨by decide +kernel, by decide +kernel⟩, List.mem_of_getElem? (i := 788) (by decide +kernel), List.mem_of_getElem? (i := 1018) (by decide +kernel), List.mem_of_getElem? (i := 1019) (by decide +kernel)⟩
theorem lw_p75 : lw_okq (⟨"PieFunnelsModel", "item", "()Z"⟩, 37) := ⟨⟨by decide +kernel, by decide +kernel⟩, List.mem_of_getElem? (i := 788) (by decide +kernel), List.mem_of_getElem? (i := 1022) (by decide +kernel), List.mem_of_getElem? (i := 1023) (by decide +kernel)⟩
theorem lw_p76 : lw_okq (⟨"PieFunnelsModel", "sign", "()I"⟩, 37) := ⟨⟨by decide +kernel, by decide +kernel⟩, List.mem_of_getElem? (i := 788) (by decide +kernel), List.mem_of_getElem? (i := 1026) (by decide +kernel), List.mem_of_getElem? (i := 1027) (by decide +kernel)⟩
theorem lw_p77 : lw_okq (⟨"PieFunnelsModel", "word", "(Ljava/lang/String;Z)Z"⟩, 37) := ⟨⟨by decide +kernel, by decide +kernel⟩, List.mem_of_getElem? (i := 788) (by decide +kernel), List.mem_of_getElem? (i := 1031) (by decide +kernel), List.mem_of_getElem? (i := 1032) (by decide +kernel)⟩
theorem lw_p78 : lw_okq (⟨"PieFunnelsModel", "word", "(Ljava/lang/String;)Z"⟩, 37) := ⟨⟨by decide +kernel, by decide +kernel⟩, List.mem_of_getElem? (i := 788) (by decide +kernel), List.mem_of_getElem? (i := 1035) (by decide +kernel), List.mem_of_getElem? (i := 1036) (by decide +kernel)⟩
theorem lw_p79 : lw_okq (⟨"PieFunnelsModel", "is", "(C)Z"⟩, 37) := ⟨⟨by decide +kernel, by decide +kernel⟩, List.mem_of_getElem? (i := 788) (by decide +kernel), List.mem_of_getElem? (i := 1041) (by decide +kernel), List.mem_of_getElem? (i := 1042) (by decide +kernel)⟩
def lw_privs_5 : List (MethodName × Nat) := [(⟨"PieFunnelsModel", "noRow", "(I)I"⟩, 37), (⟨"PieFunnelsModel", "isRow", "(I)Z"⟩, 37), (⟨"PieFunnelsModel", "isBird", "(I)Z"⟩, 37), (⟨"PieFunnelsModel", "no10", "(I)I"⟩, 37), (⟨"PieFunnelsModel", "tells", "(I)V"⟩, 37), (⟨"PieFunnelsModel", "chipped", "(II)I"⟩, 37), (⟨"PieFunnelsModel", "plain", "(II)I"⟩, 37), (⟨"PieFunnelsModel", "widowed", "(II)I"⟩, 37), (⟨"PieFunnelsModel", "sorts", "()V"⟩, 37), (⟨"PieFunnelsModel", "newBird", "(III)I"⟩, 37), (⟨"PieFunnelsModel", "keep", "([I)V"⟩, 37), (⟨"PieFunnelsModel", "item", "()Z"⟩, 37), (⟨"PieFunnelsModel", "sign", "()I"⟩, 37), (⟨"PieFunnelsModel", "word", "(Ljava/lang/String;Z)Z"⟩, 37), (⟨"PieFunnelsModel", "word", "(Ljava/lang/String;)Z"⟩, 37), (⟨"PieFunnelsModel", "is", "(C)Z"⟩, 37)]
theorem lw_r5 : ∀ q ∈ lw_privs_5, lw_okq q := List.forall_mem_cons.mpr ⟨lw_p64, List.forall_mem_cons.mpr ⟨lw_p65, List.forall_mem_cons.mpr ⟨lw_p66, List.forall_mem_cons.mpr ⟨lw_p67, List.forall_mem_cons.mpr ⟨lw_p68, List.forall_mem_cons.mpr ⟨lw_p69, List.forall_mem_cons.mpr ⟨lw_p70, List.forall_mem_cons.mpr ⟨lw_p71, List.forall_mem_cons.mpr ⟨lw_p72, List.forall_mem_cons.mpr ⟨lw_p73, List.forall_mem_cons.mpr ⟨lw_p74, List.forall_mem_cons.mpr ⟨lw_p75, List.forall_mem_cons.mpr ⟨lw_p76, List.forall_mem_cons.mpr ⟨lw_p77, List.forall_mem_cons.mpr ⟨lw_p78, List.forall_mem_cons.mpr ⟨lw_p79, fun _ h => absurd h List.not_mem_nil⟩⟩⟩⟩⟩⟩⟩⟩⟩⟩⟩⟩⟩⟩⟩⟩
theorem lw_p80 : lw_okq (⟨"PieFunnelsModel", "number", "(III)Z"⟩, 37) := ⟨⟨by decide +kernel, by decide +kernel⟩, List.mem_of_getElem? (i := 788) (by decide +kernel), List.mem_of_getElem? (i := 1045) (by decide +kernel), List.mem_of_getElem? (i := 1046) (by decide +kernel)⟩
theorem lw_p81 : lw_okq (⟨"PieFunnelsModel", "again", "([I)V"⟩, 37) := ⟨⟨by decide +kernel, by decide +kernel⟩, List.mem_of_getElem? (i := 788) (by decide +kernel), List.mem_of_getElem? (i := 1054) (by decide +kernel), List.mem_of_getElem? (i := 1055) (by decide +kernel)⟩
theorem lw_p82 : lw_okq (⟨"PieFunnelsModel", "noPie", "(II)I"⟩, 37) := ⟨⟨by decide +kernel, by decide +kernel⟩, List.mem_of_getElem? (i := 788) (by decide +kernel), List.mem_of_getElem? (i := 1066) (by decide +kernel), List.mem_of_getElem? (i := 1067) (by decide +kernel)⟩
theorem lw_p83 : lw_okq (⟨"PieFunnelsModel", "isPie", "(II)Z"⟩, 37) := ⟨⟨by decide +kernel, by decide +kernel⟩, List.mem_of_getElem? (i := 788) (by decide +kernel), List.mem_of_getElem? (i := 1070) (by decide +kernel), List.mem_of_getElem? (i := 1071) (by decide +kernel)⟩
theorem lw_p84 : lw_okq (⟨"PieFunnelsModel", "toldAt", "(II)I"⟩, 37) := ⟨⟨by decide +kernel, by decide +kernel⟩, List.mem_of_getElem? (i := 788) (by decide +kernel), List.mem_of_getElem? (i := 1074) (by decide +kernel), List.mem_of_getElem? (i := 1075) (by decide +kernel)⟩
theorem lw_p85 : lw_okq (⟨"PieFunnelsModel", "goes", "(II)V"⟩, 37) := ⟨⟨by decide +kernel, by decide +kernel⟩, List.mem_of_getElem? (i := 788) (by decide +kernel), List.mem_of_getElem? (i := 1082) (by decide +kernel), List.mem_of_getElem? (i := 1083) (by decide +kernel)⟩
theorem lw_p86 : lw_okq (⟨"PieFunnelsModel", "lays", "(II)V"⟩, 37) := ⟨⟨by decide +kernel, by decide +kernel⟩, List.mem_of_getElem? (i := 788) (by decide +kernel), List.mem_of_getElem? (i := 1096) (by decide +kernel), List.mem_of_getElem? (i := 1097) (by decide +kernel)⟩
theorem lw_p87 : lw_okq (⟨"PieFunnelsModel", "noRows", "(II)I"⟩, 37) := ⟨⟨by decide +kernel, by decide +kernel⟩, List.mem_of_getElem? (i := 788) (by decide +kernel), List.mem_of_getElem? (i := 1108) (by decide +kernel), List.mem_of_getElem? (i := 1109) (by decide +kernel)⟩
theorem lw_p88 : lw_okq (⟨"PieFunnelsModel", "kindsSo", "(II)I"⟩, 37) := ⟨⟨by decide +kernel, by decide +kernel⟩, List.mem_of_getElem? (i := 788) (by decide +kernel), List.mem_of_getElem? (i := 1112) (by decide +kernel), List.mem_of_getElem? (i := 1113) (by decide +kernel)⟩
theorem lw_p89 : lw_okq (⟨"PieFunnelsModel", "isSaid", "(II)Z"⟩, 37) := ⟨⟨by decide +kernel, by decide +kernel⟩, List.mem_of_getElem? (i := 788) (by decide +kernel), List.mem_of_getElem? (i := 1116) (by decide +kernel), List.mem_of_getElem? (i := 1117) (by decide +kernel)⟩
theorem lw_p90 : lw_okq (⟨"PieFunnelsModel", "heatsSo", "(II)I"⟩, 37) := ⟨⟨by decide +kernel, by decide +kernel⟩, List.mem_of_getElem? (i := 788) (by decide +kernel), List.mem_of_getElem? (i := 1120) (by decide +kernel), List.mem_of_getElem? (i := 1121) (by decide +kernel)⟩
theorem lw_p91 : lw_okq (⟨"PieFunnelsModel", "mouthsSo", "(II)I"⟩, 37) := ⟨⟨by decide +kernel, by decide +kernel⟩, List.mem_of_getElem? (i := 788) (by decide +kernel), List.mem_of_getElem? (i := 1124) (by decide +kernel), List.mem_of_getElem? (i := 1125) (by decide +kernel)⟩
theorem lw_p92 : lw_okq (⟨"PieFunnelsModel", "worst", "(I)I"⟩, 37) := ⟨⟨by decide +kernel, by decide +kernel⟩, List.mem_of_getElem? (i := 788) (by decide +kernel), List.mem_of_getElem? (i := 1136) (by decide +kernel), List.mem_of_getElem? (i := 1137) (by decide +kernel)⟩
theorem lw_p93 : lw_okq (⟨"PieFunnelsModel", "unknown", "()I"⟩, 37) := ⟨⟨by decide +kernel, by decide +kernel⟩, List.mem_of_getElem? (i := 788) (by decide +kernel), List.mem_of_getElem? (i := 1145) (by decide +kernel), List.mem_of_getElem? (i := 1146) (by decide +kernel)⟩
theorem lw_p94 : lw_okq (⟨"PieFunnelsModel", "fewestIlls", "(I)I"⟩, 37) := ⟨⟨by decide +kernel, by decide +kernel⟩, List.mem_of_getElem? (i := 788) (by decide +kernel), List.mem_of_getElem? (i := 1162) (by decide +kernel), List.mem_of_getElem? (i := 1163) (by decide +kernel)⟩
theorem lw_p95 : lw_okq (⟨"PieFunnelsModel", "areWishes", "(I)Z"⟩, 37) := ⟨⟨by decide +kernel, by decide +kernel⟩, List.mem_of_getElem? (i := 788) (by decide +kernel), List.mem_of_getElem? (i := 1170) (by decide +kernel), List.mem_of_getElem? (i := 1171) (by decide +kernel)⟩
def lw_privs_6 : List (MethodName × Nat) := [(⟨"PieFunnelsModel", "number", "(III)Z"⟩, 37), (⟨"PieFunnelsModel", "again", "([I)V"⟩, 37), (⟨"PieFunnelsModel", "noPie", "(II)I"⟩, 37), (⟨"PieFunnelsModel", "isPie", "(II)Z"⟩, 37), (⟨"PieFunnelsModel", "toldAt", "(II)I"⟩, 37), (⟨"PieFunnelsModel", "goes", "(II)V"⟩, 37), (⟨"PieFunnelsModel", "lays", "(II)V"⟩, 37), (⟨"PieFunnelsModel", "noRows", "(II)I"⟩, 37), (⟨"PieFunnelsModel", "kindsSo", "(II)I"⟩, 37), (⟨"PieFunnelsModel", "isSaid", "(II)Z"⟩, 37), (⟨"PieFunnelsModel", "heatsSo", "(II)I"⟩, 37), (⟨"PieFunnelsModel", "mouthsSo", "(II)I"⟩, 37), (⟨"PieFunnelsModel", "worst", "(I)I"⟩, 37), (⟨"PieFunnelsModel", "unknown", "()I"⟩, 37), (⟨"PieFunnelsModel", "fewestIlls", "(I)I"⟩, 37), (⟨"PieFunnelsModel", "areWishes", "(I)Z"⟩, 37)]
theorem lw_r6 : ∀ q ∈ lw_privs_6, lw_okq q := List.forall_mem_cons.mpr ⟨lw_p80, List.forall_mem_cons.mpr ⟨lw_p81, List.forall_mem_cons.mpr ⟨lw_p82, List.forall_mem_cons.mpr ⟨lw_p83, List.forall_mem_cons.mpr ⟨lw_p84, List.forall_mem_cons.mpr ⟨lw_p85, List.forall_mem_cons.mpr ⟨lw_p86, List.forall_mem_cons.mpr ⟨lw_p87, List.forall_mem_cons.mpr ⟨lw_p88, List.forall_mem_cons.mpr ⟨lw_p89, List.forall_mem_cons.mpr ⟨lw_p90, List.forall_mem_cons.mpr ⟨lw_p91, List.forall_mem_cons.mpr ⟨lw_p92, List.forall_mem_cons.mpr ⟨lw_p93, List.forall_mem_cons.mpr ⟨lw_p94, List.forall_mem_cons.mpr ⟨lw_p95, fun _ h => absurd h List.not_mem_nil⟩⟩⟩⟩⟩⟩⟩⟩⟩⟩⟩⟩⟩⟩⟩⟩
theorem lw_p96 : lw_okq (⟨"PieFunnelsModel", "parts", "(III)V"⟩, 37) := ⟨⟨by decide +kernel, by decide +kernel⟩, List.mem_of_getElem? (i := 788) (by decide +kernel), List.mem_of_getElem? (i := 1174) (by decide +kernel), List.mem_of_getElem? (i := 1175) (by decide +kernel)⟩
theorem lw_p97 : lw_okq (⟨"PieFunnelsModel", "bakes", "(I)V"⟩, 37) := ⟨⟨by decide +kernel, by decide +kernel⟩, List.mem_of_getElem? (i := 788) (by decide +kernel), List.mem_of_getElem? (i := 1191) (by decide +kernel), List.mem_of_getElem? (i := 1192) (by decide +kernel)⟩
theorem lw_p98 : lw_okq (⟨"PieFunnelsModel", "draw", "(I)I"⟩, 37) := ⟨⟨by decide +kernel, by decide +kernel⟩, List.mem_of_getElem? (i := 788) (by decide +kernel), List.mem_of_getElem? (i := 1199) (by decide +kernel), List.mem_of_getElem? (i := 1200) (by decide +kernel)⟩
theorem lw_p99 : lw_okq (⟨"PieFunnelsModel", "singsBy", "(III)I"⟩, 37) := ⟨⟨by decide +kernel, by decide +kernel⟩, List.mem_of_getElem? (i := 788) (by decide +kernel), List.mem_of_getElem? (i := 1212) (by decide +kernel), List.mem_of_getElem? (i := 1213) (by decide +kernel)⟩
theorem lw_p100 : lw_okq (⟨"PieFunnelsModel", "ran", "(I)V"⟩, 37) := ⟨⟨by decide +kernel, by decide +kernel⟩, List.mem_of_getElem? (i := 788) (by decide +kernel), List.mem_of_getElem? (i := 1216) (by decide +kernel), List.mem_of_getElem? (i := 1217) (by decide +kernel)⟩
theorem lw_p101 : lw_okq (⟨"PieFunnelsModel", "steamsBy", "(III)I"⟩, 37) := ⟨⟨by decide +kernel, by decide +kernel⟩, List.mem_of_getElem? (i := 788) (by decide +kernel), List.mem_of_getElem? (i := 1220) (by decide +kernel), List.mem_of_getElem? (i := 1221) (by decide +kernel)⟩
theorem lw_p102 : lw_okq (⟨"PieFunnelsModel", "fallsBy", "(III)I"⟩, 37) := ⟨⟨by decide +kernel, by decide +kernel⟩, List.mem_of_getElem? (i := 788) (by decide +kernel), List.mem_of_getElem? (i := 1224) (by decide +kernel), List.mem_of_getElem? (i := 1225) (by decide +kernel)⟩
def lw_privs_7 : List (MethodName × Nat) := [(⟨"PieFunnelsModel", "parts", "(III)V"⟩, 37), (⟨"PieFunnelsModel", "bakes", "(I)V"⟩, 37), (⟨"PieFunnelsModel", "draw", "(I)I"⟩, 37), (⟨"PieFunnelsModel", "singsBy", "(III)I"⟩, 37), (⟨"PieFunnelsModel", "ran", "(I)V"⟩, 37), (⟨"PieFunnelsModel", "steamsBy", "(III)I"⟩, 37), (⟨"PieFunnelsModel", "fallsBy", "(III)I"⟩, 37)]
theorem lw_r7 : ∀ q ∈ lw_privs_7, lw_okq q := List.forall_mem_cons.mpr ⟨lw_p96, List.forall_mem_cons.mpr ⟨lw_p97, List.forall_mem_cons.mpr ⟨lw_p98, List.forall_mem_cons.mpr ⟨lw_p99, List.forall_mem_cons.mpr ⟨lw_p100, List.forall_mem_cons.mpr ⟨lw_p101, List.forall_mem_cons.mpr ⟨lw_p102, fun _ h => absurd h List.not_mem_nil⟩⟩⟩⟩⟩⟩⟩
def lw_privs : List (MethodName × Nat) := lw_privs_1 ++ (lw_privs_2 ++ (lw_privs_3 ++ (lw_privs_4 ++ (lw_privs_5 ++ (lw_privs_6 ++ (lw_privs_7))))))
def lw_tbl : List Cond := k2_sels lw_privs ++ tables_1
theorem lw_privs_ok : ∀ q ∈ lw_privs, lw_okq q := by
  show ∀ q ∈ lw_privs_1 ++ (lw_privs_2 ++ (lw_privs_3 ++ (lw_privs_4 ++ (lw_privs_5 ++ (lw_privs_6 ++ (lw_privs_7)))))), lw_okq q
  exact List.forall_mem_append.mpr ⟨lw_r1, List.forall_mem_append.mpr ⟨lw_r2, List.forall_mem_append.mpr ⟨lw_r3, List.forall_mem_append.mpr ⟨lw_r4, List.forall_mem_append.mpr ⟨lw_r5, List.forall_mem_append.mpr ⟨lw_r6, lw_r7⟩⟩⟩⟩⟩⟩
-- ===== end of PART A; then your names; then what follows =====
end
section
def RX0 : String := "PieFunnels$Bakery"
def TX0 : u_T := fun k => match k with
  | 0 => ("PieFunnels$Bakery", "birds", "I", false)
  | 1 => ("PieFunnels$Bakery", "kinds", "[I", true)
  | 2 => ("PieFunnels$Bakery", "as", "[I", true)
  | 3 => ("PieFunnels$Bakery", "mouths", "[I", true)
  | 4 => ("PieFunnels$Bakery", "table", "[I", true)
  | 5 => ("PieFunnels$Bakery", "heat", "I", false)
  | 6 => ("PieFunnels$Bakery", "state", "I", false)
  | 7 => ("PieFunnels$Bakery", "troubles", "I", false)
  | 8 => ("PieFunnels$Bakery", "bakes", "I", false)
  | 9 => ("PieFunnels$Bakery", "suffered", "I", false)
  | _ => ("PieFunnels$Bakery", "seed", "I", false)
def tyX0 : Nat → FieldType := fun k => match k with
  | 0 => .int
  | 1 => .array .int
  | 2 => .array .int
  | 3 => .array .int
  | 4 => .array .int
  | 5 => .int
  | 6 => .int
  | 7 => .int
  | 8 => .int
  | 9 => .int
  | _ => .int
theorem nmX0 : ∀ a, a < 11 → ∀ b, b < 11 → a ≠ b → (TX0 a).2.1 ≠ (TX0 b).2.1 := by decide +kernel
theorem tyX0_ok : ∀ k, k < 11 → parseFieldDescriptor (TX0 k).2.2.1 = some (tyX0 k) := by decide +kernel
abbrev cX0_init : ByteArray := prog_2_method_1_code
def yX0_init : MethodName := ⟨RX0, "<init>", "()V"⟩
abbrev cX0_become : ByteArray := prog_2_method_2_code
def yX0_become : MethodName := ⟨RX0, "become", "(LPieFunnels$Bakery;)V"⟩
abbrev cX0_lacks : ByteArray := prog_2_method_3_code
def yX0_lacks : MethodName := ⟨RX0, "lacks", "(I)Z"⟩
abbrev cX0_add : ByteArray := prog_2_method_4_code
def yX0_add : MethodName := ⟨RX0, "add", "(III)V"⟩
abbrev cX0_comingBy : ByteArray := prog_2_method_5_code
def yX0_comingBy : MethodName := ⟨RX0, "comingBy", "(II)I"⟩
abbrev cX0_setComing : ByteArray := prog_2_method_6_code
def yX0_setComing : MethodName := ⟨RX0, "setComing", "(III)V"⟩
abbrev cX0_endOf : ByteArray := prog_2_method_7_code
def yX0_endOf : MethodName := ⟨RX0, "endOf", "(LPieFunnels$Voice;I)I"⟩
abbrev cX0_illsOf : ByteArray := prog_2_method_8_code
def yX0_illsOf : MethodName := ⟨RX0, "illsOf", "(LPieFunnels$Voice;)I"⟩
abbrev cX0_draw : ByteArray := prog_2_method_9_code
def yX0_draw : MethodName := ⟨RX0, "draw", "(I)I"⟩
def RX1 : String := "PieFunnels$Moves"
def TX1 : u_T := fun k => match k with
  | 0 => ("PieFunnels$Moves", "trace", "[I", true)
  | 1 => ("PieFunnels$Moves", "ran", "I", false)
  | 2 => ("PieFunnels$Moves", "kind", "I", false)
  | 3 => ("PieFunnels$Moves", "number", "I", false)
  | _ => ("PieFunnels$Moves", "a", "I", false)
def tyX1 : Nat → FieldType := fun k => match k with
  | 0 => .array .int
  | 1 => .int
  | 2 => .int
  | 3 => .int
  | _ => .int
theorem nmX1 : ∀ a, a < 5 → ∀ b, b < 5 → a ≠ b → (TX1 a).2.1 ≠ (TX1 b).2.1 := by decide +kernel
theorem tyX1_ok : ∀ k, k < 5 → parseFieldDescriptor (TX1 k).2.2.1 = some (tyX1 k) := by decide +kernel
abbrev cX1_init : ByteArray := prog_3_method_1_code
def yX1_init : MethodName := ⟨RX1, "<init>", "()V"⟩
abbrev cX1_forget : ByteArray := prog_3_method_2_code
def yX1_forget : MethodName := ⟨RX1, "forget", "()V"⟩
abbrev cX1_take : ByteArray := prog_3_method_3_code
def yX1_take : MethodName := ⟨RX1, "take", "(LPieFunnels$Bakery;I)V"⟩
abbrev cX1_traced : ByteArray := prog_3_method_4_code
def yX1_traced : MethodName := ⟨RX1, "traced", "()I"⟩
abbrev cX1_begin : ByteArray := prog_3_method_5_code
def yX1_begin : MethodName := ⟨RX1, "begin", "(I)V"⟩
abbrev cX1_bodyFrom : ByteArray := prog_3_method_6_code
def yX1_bodyFrom : MethodName := ⟨RX1, "bodyFrom", "(II)I"⟩
abbrev cX1_run : ByteArray := prog_3_method_7_code
def yX1_run : MethodName := ⟨RX1, "run", "(LPieFunnels$Moves;IIII)I"⟩
def RX2 : String := "PieFunnels$Parting"
def TX2 : u_T := fun k => match k with
  | 0 => ("PieFunnels$Parting", "tribes", "I", false)
  | 1 => ("PieFunnels$Parting", "served", "I", false)
  | 2 => ("PieFunnels$Parting", "wishes", "[I", true)
  | 3 => ("PieFunnels$Parting", "whom", "[I", true)
  | _ => ("PieFunnels$Parting", "brought", "[I", true)
def tyX2 : Nat → FieldType := fun k => match k with
  | 0 => .int
  | 1 => .int
  | 2 => .array .int
  | 3 => .array .int
  | _ => .array .int
theorem nmX2 : ∀ a, a < 5 → ∀ b, b < 5 → a ≠ b → (TX2 a).2.1 ≠ (TX2 b).2.1 := by decide +kernel
theorem tyX2_ok : ∀ k, k < 5 → parseFieldDescriptor (TX2 k).2.2.1 = some (tyX2 k) := by decide +kernel
abbrev cX2_init : ByteArray := prog_4_method_1_code
def yX2_init : MethodName := ⟨RX2, "<init>", "()V"⟩
abbrev cX2_takeWishes : ByteArray := prog_4_method_2_code
def yX2_takeWishes : MethodName := ⟨RX2, "takeWishes", "(LPieFunnels$Shelf;)Z"⟩
abbrev cX2_bringsOf : ByteArray := prog_4_method_3_code
def yX2_bringsOf : MethodName := ⟨RX2, "bringsOf", "(II)V"⟩
abbrev cX2_part : ByteArray := prog_4_method_4_code
def yX2_part : MethodName := ⟨RX2, "part", "(I)V"⟩
abbrev cX2_firstLeft : ByteArray := prog_4_method_5_code
def yX2_firstLeft : MethodName := ⟨RX2, "firstLeft", "(II)I"⟩
abbrev cX2_whomHas : ByteArray := prog_4_method_6_code
def yX2_whomHas : MethodName := ⟨RX2, "whomHas", "(I)I"⟩
def RX3 : String := "PieFunnels$Pie"
def TX3 : u_T := fun k => match k with
  | 0 => ("PieFunnels$Pie", "stuffings", "[I", true)
  | _ => ("PieFunnels$Pie", "layers", "I", false)
def tyX3 : Nat → FieldType := fun k => match k with
  | 0 => .array .int
  | _ => .int
theorem nmX3 : ∀ a, a < 2 → ∀ b, b < 2 → a ≠ b → (TX3 a).2.1 ≠ (TX3 b).2.1 := by decide +kernel
theorem tyX3_ok : ∀ k, k < 2 → parseFieldDescriptor (TX3 k).2.2.1 = some (tyX3 k) := by decide +kernel
abbrev cX3_init : ByteArray := prog_5_method_1_code
def yX3_init : MethodName := ⟨RX3, "<init>", "()V"⟩
abbrev cX3_take : ByteArray := prog_5_method_2_code
def yX3_take : MethodName := ⟨RX3, "take", "(LPieFunnels$Shelf;I)Z"⟩
abbrev cX3_setByNumber : ByteArray := prog_5_method_3_code
def yX3_setByNumber : MethodName := ⟨RX3, "setByNumber", "(II)V"⟩
abbrev cX3_setLast : ByteArray := prog_5_method_4_code
def yX3_setLast : MethodName := ⟨RX3, "setLast", "(I)V"⟩
abbrev cX3_unknowns : ByteArray := prog_5_method_5_code
def yX3_unknowns : MethodName := ⟨RX3, "unknowns", "()I"⟩
abbrev cX3_fillUnknowns : ByteArray := prog_5_method_6_code
def yX3_fillUnknowns : MethodName := ⟨RX3, "fillUnknowns", "(I)V"⟩
def RX4 : String := "PieFunnels$Reader"
def TX4 : u_T := fun k => match k with
  | 0 => ("PieFunnels$Reader", "fault", "I", false)
  | 1 => ("PieFunnels$Reader", "place", "I", false)
  | 2 => ("PieFunnels$Reader", "text", "LPieFunnels$Shelf;", false)
  | _ => ("PieFunnels$Reader", "numbers", "[I", true)
def tyX4 : Nat → FieldType := fun k => match k with
  | 0 => .int
  | 1 => .int
  | 2 => .object "PieFunnels$Shelf"
  | _ => .array .int
theorem nmX4 : ∀ a, a < 4 → ∀ b, b < 4 → a ≠ b → (TX4 a).2.1 ≠ (TX4 b).2.1 := by decide +kernel
theorem tyX4_ok : ∀ k, k < 4 → parseFieldDescriptor (TX4 k).2.2.1 = some (tyX4 k) := by decide +kernel
abbrev cX4_init : ByteArray := prog_6_method_1_code
def yX4_init : MethodName := ⟨RX4, "<init>", "()V"⟩
abbrev cX4_read : ByteArray := prog_6_method_2_code
def yX4_read : MethodName := ⟨RX4, "read", "(LPieFunnels$Shelf;LPieFunnels$Bakery;)I"⟩
abbrev cX4_readItem : ByteArray := prog_6_method_3_code
def yX4_readItem : MethodName := ⟨RX4, "readItem", "(LPieFunnels$Bakery;)V"⟩
abbrev cX4_tell : ByteArray := prog_6_method_4_code
def yX4_tell : MethodName := ⟨RX4, "tell", "(LPieFunnels$Bakery;I)V"⟩
abbrev cX4_wordThatBeginsWith : ByteArray := prog_6_method_5_code
def yX4_wordThatBeginsWith : MethodName := ⟨RX4, "wordThatBeginsWith", "(I)Ljava/lang/String;"⟩
abbrev cX4_numbersBehind : ByteArray := prog_6_method_6_code
def yX4_numbersBehind : MethodName := ⟨RX4, "numbersBehind", "(I)I"⟩
abbrev cX4_most : ByteArray := prog_6_method_7_code
def yX4_most : MethodName := ⟨RX4, "most", "(II)I"⟩
abbrev cX4_readNumber : ByteArray := prog_6_method_8_code
def yX4_readNumber : MethodName := ⟨RX4, "readNumber", "(I)I"⟩
abbrev cX4_digit : ByteArray := prog_6_method_9_code
def yX4_digit : MethodName := ⟨RX4, "digit", "()I"⟩
abbrev cX4_letter : ByteArray := prog_6_method_10_code
def yX4_letter : MethodName := ⟨RX4, "letter", "()I"⟩
abbrev cX4_expect : ByteArray := prog_6_method_11_code
def yX4_expect : MethodName := ⟨RX4, "expect", "(C)V"⟩
abbrev cX4_fail : ByteArray := prog_6_method_12_code
def yX4_fail : MethodName := ⟨RX4, "fail", "(I)V"⟩
def RX5 : String := "PieFunnels$Shelf"
def TX5 : u_T := fun k => match k with
  | 0 => ("PieFunnels$Shelf", "content", "I", false)
  | 1 => ("PieFunnels$Shelf", "bird", "I", false)
  | 2 => ("PieFunnels$Shelf", "sort", "I", false)
  | 3 => ("PieFunnels$Shelf", "size", "I", false)
  | _ => ("PieFunnels$Shelf", "cells", "[J", true)
def tyX5 : Nat → FieldType := fun k => match k with
  | 0 => .int
  | 1 => .int
  | 2 => .int
  | 3 => .int
  | _ => .array .long
theorem nmX5 : ∀ a, a < 5 → ∀ b, b < 5 → a ≠ b → (TX5 a).2.1 ≠ (TX5 b).2.1 := by decide +kernel
theorem tyX5_ok : ∀ k, k < 5 → parseFieldDescriptor (TX5 k).2.2.1 = some (tyX5 k) := by decide +kernel
abbrev cX5_init : ByteArray := prog_7_method_1_code
def yX5_init : MethodName := ⟨RX5, "<init>", "()V"⟩
abbrev cX5_holdNothing : ByteArray := prog_7_method_2_code
def yX5_holdNothing : MethodName := ⟨RX5, "holdNothing", "()V"⟩
abbrev cX5_holdBird : ByteArray := prog_7_method_3_code
def yX5_holdBird : MethodName := ⟨RX5, "holdBird", "(I)V"⟩
abbrev cX5_holdRow : ByteArray := prog_7_method_4_code
def yX5_holdRow : MethodName := ⟨RX5, "holdRow", "(II)V"⟩
abbrev cX5_put : ByteArray := prog_7_method_5_code
def yX5_put : MethodName := ⟨RX5, "put", "(IJ)V"⟩
abbrev cX5_whole : ByteArray := prog_7_method_6_code
def yX5_whole : MethodName := ⟨RX5, "whole", "(I)J"⟩
abbrev cX5_number : ByteArray := prog_7_method_7_code
def yX5_number : MethodName := ⟨RX5, "number", "(I)I"⟩
abbrev cX5_hasSpan : ByteArray := prog_7_method_8_code
def yX5_hasSpan : MethodName := ⟨RX5, "hasSpan", "(II)Z"⟩
def RX6 : String := "PieFunnels$Voice"
def TX6 : u_T := fun k => match k with
  | 0 => ("PieFunnels$Voice", "kind", "I", false)
  | 1 => ("PieFunnels$Voice", "a", "I", false)
  | 2 => ("PieFunnels$Voice", "mouth", "I", false)
  | 3 => ("PieFunnels$Voice", "heat", "I", false)
  | 4 => ("PieFunnels$Voice", "count", "I", false)
  | _ => ("PieFunnels$Voice", "signs", "[I", true)
def tyX6 : Nat → FieldType := fun k => match k with
  | 0 => .int
  | 1 => .int
  | 2 => .int
  | 3 => .int
  | 4 => .int
  | _ => .array .int
theorem nmX6 : ∀ a, a < 6 → ∀ b, b < 6 → a ≠ b → (TX6 a).2.1 ≠ (TX6 b).2.1 := by decide +kernel
theorem tyX6_ok : ∀ k, k < 6 → parseFieldDescriptor (TX6 k).2.2.1 = some (tyX6 k) := by decide +kernel
abbrev cX6_init : ByteArray := prog_8_method_1_code
def yX6_init : MethodName := ⟨RX6, "<init>", "()V"⟩
abbrev cX6_take : ByteArray := prog_8_method_2_code
def yX6_take : MethodName := ⟨RX6, "take", "(LPieFunnels$Bakery;I)V"⟩
abbrev cX6_speak : ByteArray := prog_8_method_3_code
def yX6_speak : MethodName := ⟨RX6, "speak", "(LPieFunnels$Pie;)V"⟩
abbrev cX6_sayLayers : ByteArray := prog_8_method_4_code
def yX6_sayLayers : MethodName := ⟨RX6, "sayLayers", "(LPieFunnels$Pie;)V"⟩
abbrev cX6_chip : ByteArray := prog_8_method_5_code
def yX6_chip : MethodName := ⟨RX6, "chip", "()V"⟩
abbrev cX6_raise : ByteArray := prog_8_method_6_code
def yX6_raise : MethodName := ⟨RX6, "raise", "()V"⟩
abbrev cX6_keepEachSecond : ByteArray := prog_8_method_7_code
def yX6_keepEachSecond : MethodName := ⟨RX6, "keepEachSecond", "()V"⟩
abbrev cX6_turn : ByteArray := prog_8_method_8_code
def yX6_turn : MethodName := ⟨RX6, "turn", "()V"⟩
abbrev cX6_doubleEach : ByteArray := prog_8_method_9_code
def yX6_doubleEach : MethodName := ⟨RX6, "doubleEach", "()V"⟩
abbrev cX6_order : ByteArray := prog_8_method_10_code
def yX6_order : MethodName := ⟨RX6, "order", "()V"⟩
abbrev cX6_swap : ByteArray := prog_8_method_11_code
def yX6_swap : MethodName := ⟨RX6, "swap", "(II)V"⟩
abbrev cX6_saysJust : ByteArray := prog_8_method_12_code
def yX6_saysJust : MethodName := ⟨RX6, "saysJust", "(LPieFunnels$Shelf;)Z"⟩
abbrev cX6_saysSame : ByteArray := prog_8_method_13_code
def yX6_saysSame : MethodName := ⟨RX6, "saysSame", "(LPieFunnels$Voice;)Z"⟩
def RX7 : String := "PieFunnels"
def TX7 : u_T := fun k => match k with
  | 0 => ("PieFunnels", "shelves", "[LPieFunnels$Shelf;", true)
  | 1 => ("PieFunnels", "bakery", "LPieFunnels$Bakery;", true)
  | 2 => ("PieFunnels", "draft", "LPieFunnels$Bakery;", true)
  | 3 => ("PieFunnels", "kept", "LPieFunnels$Bakery;", true)
  | 4 => ("PieFunnels", "anyKept", "Z", false)
  | 5 => ("PieFunnels", "reader", "LPieFunnels$Reader;", true)
  | 6 => ("PieFunnels", "moves", "LPieFunnels$Moves;", true)
  | 7 => ("PieFunnels", "pie", "LPieFunnels$Pie;", true)
  | 8 => ("PieFunnels", "voice", "LPieFunnels$Voice;", true)
  | 9 => ("PieFunnels", "second", "LPieFunnels$Voice;", true)
  | 10 => ("PieFunnels", "parting", "LPieFunnels$Parting;", true)
  | _ => ("PieFunnels", "refusals", "[I", true)
def tyX7 : Nat → FieldType := fun k => match k with
  | 0 => .array (.object "PieFunnels$Shelf")
  | 1 => .object "PieFunnels$Bakery"
  | 2 => .object "PieFunnels$Bakery"
  | 3 => .object "PieFunnels$Bakery"
  | 4 => .boolean
  | 5 => .object "PieFunnels$Reader"
  | 6 => .object "PieFunnels$Moves"
  | 7 => .object "PieFunnels$Pie"
  | 8 => .object "PieFunnels$Voice"
  | 9 => .object "PieFunnels$Voice"
  | 10 => .object "PieFunnels$Parting"
  | _ => .array .int
theorem nmX7 : ∀ a, a < 12 → ∀ b, b < 12 → a ≠ b → (TX7 a).2.1 ≠ (TX7 b).2.1 := by decide +kernel
theorem tyX7_ok : ∀ k, k < 12 → parseFieldDescriptor (TX7 k).2.2.1 = some (tyX7 k) := by decide +kernel
abbrev cX7_init : ByteArray := prog_1_method_1_code
def yX7_init : MethodName := ⟨RX7, "<init>", "()V"⟩
abbrev cX7_row : ByteArray := prog_1_method_2_code
def yX7_row : MethodName := ⟨RX7, "row", "(III)I"⟩
abbrev cX7_set : ByteArray := prog_1_method_3_code
def yX7_set : MethodName := ⟨RX7, "set", "(IIJ)I"⟩
abbrev cX7_copy : ByteArray := prog_1_method_4_code
def yX7_copy : MethodName := ⟨RX7, "copy", "(IIIII)I"⟩
abbrev cX7_element : ByteArray := prog_1_method_5_code
def yX7_element : MethodName := ⟨RX7, "element", "(II)J"⟩
abbrev cX7_show : ByteArray := prog_1_method_6_code
def yX7_show : MethodName := ⟨RX7, "show", "(II)I"⟩
abbrev cX7_holds : ByteArray := prog_1_method_7_code
def yX7_holds : MethodName := ⟨RX7, "holds", "(I)I"⟩
abbrev cX7_says : ByteArray := prog_1_method_8_code
def yX7_says : MethodName := ⟨RX7, "says", "(II)I"⟩
abbrev cX7_bird : ByteArray := prog_1_method_9_code
def yX7_bird : MethodName := ⟨RX7, "bird", "(III)I"⟩
abbrev cX7_ask : ByteArray := prog_1_method_10_code
def yX7_ask : MethodName := ⟨RX7, "ask", "(II)I"⟩
abbrev cX7_table : ByteArray := prog_1_method_11_code
def yX7_table : MethodName := ⟨RX7, "table", "(III)I"⟩
abbrev cX7_comes : ByteArray := prog_1_method_12_code
def yX7_comes : MethodName := ⟨RX7, "comes", "(II)I"⟩
abbrev cX7_birdOf : ByteArray := prog_1_method_13_code
def yX7_birdOf : MethodName := ⟨RX7, "birdOf", "(II)I"⟩
abbrev cX7_bakery : ByteArray := prog_1_method_14_code
def yX7_bakery : MethodName := ⟨RX7, "bakery", "(I)I"⟩
abbrev cX7_fault : ByteArray := prog_1_method_15_code
def yX7_fault : MethodName := ⟨RX7, "fault", "()I"⟩
abbrev cX7_said : ByteArray := prog_1_method_16_code
def yX7_said : MethodName := ⟨RX7, "said", "(III)I"⟩
abbrev cX7_brings : ByteArray := prog_1_method_17_code
def yX7_brings : MethodName := ⟨RX7, "brings", "(III)I"⟩
abbrev cX7_soonest : ByteArray := prog_1_method_18_code
def yX7_soonest : MethodName := ⟨RX7, "soonest", "(III)I"⟩
abbrev cX7_safe : ByteArray := prog_1_method_19_code
def yX7_safe : MethodName := ⟨RX7, "safe", "(I)I"⟩
abbrev cX7_fits : ByteArray := prog_1_method_20_code
def yX7_fits : MethodName := ⟨RX7, "fits", "(IIII)I"⟩
abbrev cX7_pies : ByteArray := prog_1_method_21_code
def yX7_pies : MethodName := ⟨RX7, "pies", "(IIII)I"⟩
abbrev cX7_next : ByteArray := prog_1_method_22_code
def yX7_next : MethodName := ⟨RX7, "next", "(I)I"⟩
abbrev cX7_chance : ByteArray := prog_1_method_23_code
def yX7_chance : MethodName := ⟨RX7, "chance", "(IIII)I"⟩
abbrev cX7_minutes : ByteArray := prog_1_method_24_code
def yX7_minutes : MethodName := ⟨RX7, "minutes", "(II)I"⟩
abbrev cX7_after : ByteArray := prog_1_method_25_code
def yX7_after : MethodName := ⟨RX7, "after", "(III)I"⟩
abbrev cX7_kings : ByteArray := prog_1_method_26_code
def yX7_kings : MethodName := ⟨RX7, "kings", "(III)I"⟩
abbrev cX7_tribes : ByteArray := prog_1_method_27_code
def yX7_tribes : MethodName := ⟨RX7, "tribes", "(III)I"⟩
abbrev cX7_alike : ByteArray := prog_1_method_28_code
def yX7_alike : MethodName := ⟨RX7, "alike", "(II)I"⟩
abbrev cX7_judge : ByteArray := prog_1_method_29_code
def yX7_judge : MethodName := ⟨RX7, "judge", "(III)I"⟩
abbrev cX7_bake : ByteArray := prog_1_method_30_code
def yX7_bake : MethodName := ⟨RX7, "bake", "(II)I"⟩
abbrev cX7_years : ByteArray := prog_1_method_31_code
def yX7_years : MethodName := ⟨RX7, "years", "(I)I"⟩
abbrev cX7_seed : ByteArray := prog_1_method_32_code
def yX7_seed : MethodName := ⟨RX7, "seed", "(I)I"⟩
abbrev cX7_act : ByteArray := prog_1_method_33_code
def yX7_act : MethodName := ⟨RX7, "act", "(III)I"⟩
abbrev cX7_trace : ByteArray := prog_1_method_34_code
def yX7_trace : MethodName := ⟨RX7, "trace", "(I)I"⟩
abbrev cX7_image : ByteArray := prog_1_method_35_code
def yX7_image : MethodName := ⟨RX7, "image", "()I"⟩
abbrev cX7_restore : ByteArray := prog_1_method_36_code
def yX7_restore : MethodName := ⟨RX7, "restore", "()I"⟩
abbrev cX7_status : ByteArray := prog_1_method_37_code
def yX7_status : MethodName := ⟨RX7, "status", "(I)I"⟩
abbrev cX7_refuse : ByteArray := prog_1_method_38_code
def yX7_refuse : MethodName := ⟨RX7, "refuse", "(I)I"⟩
abbrev cX7_refuseFar : ByteArray := prog_1_method_39_code
def yX7_refuseFar : MethodName := ⟨RX7, "refuseFar", "(I)I"⟩
abbrev cX7_noShelf : ByteArray := prog_1_method_40_code
def yX7_noShelf : MethodName := ⟨RX7, "noShelf", "(I)Z"⟩
abbrev cX7_noRow : ByteArray := prog_1_method_41_code
def yX7_noRow : MethodName := ⟨RX7, "noRow", "(I)I"⟩
abbrev cX7_noRows : ByteArray := prog_1_method_42_code
def yX7_noRows : MethodName := ⟨RX7, "noRows", "(II)I"⟩
abbrev cX7_noPieOf : ByteArray := prog_1_method_43_code
def yX7_noPieOf : MethodName := ⟨RX7, "noPieOf", "(II)I"⟩
abbrev cX7_noPieOfWhat : ByteArray := prog_1_method_44_code
def yX7_noPieOfWhat : MethodName := ⟨RX7, "noPieOfWhat", "(IIII)I"⟩
abbrev cX7_findBringing : ByteArray := prog_1_method_45_code
def yX7_findBringing : MethodName := ⟨RX7, "findBringing", "(II)Z"⟩
abbrev cX7_kindsThatSay : ByteArray := prog_1_method_46_code
def yX7_kindsThatSay : MethodName := ⟨RX7, "kindsThatSay", "(LPieFunnels$Shelf;I)I"⟩
abbrev cX7_heatsThatSay : ByteArray := prog_1_method_47_code
def yX7_heatsThatSay : MethodName := ⟨RX7, "heatsThatSay", "(LPieFunnels$Shelf;I)I"⟩
abbrev cX7_mouthsThatSay : ByteArray := prog_1_method_48_code
def yX7_mouthsThatSay : MethodName := ⟨RX7, "mouthsThatSay", "(LPieFunnels$Shelf;I)I"⟩
abbrev cX7_mostLeft : ByteArray := prog_1_method_49_code
def yX7_mostLeft : MethodName := ⟨RX7, "mostLeft", "(I)I"⟩
abbrev cX7_fewestIllsByLast : ByteArray := prog_1_method_50_code
def yX7_fewestIllsByLast : MethodName := ⟨RX7, "fewestIllsByLast", "()I"⟩
abbrev cX7_bakeInTruth : ByteArray := prog_1_method_51_code
def yX7_bakeInTruth : MethodName := ⟨RX7, "bakeInTruth", "(I)V"⟩
abbrev cX7_isUnder : ByteArray := prog_1_method_52_code
def yX7_isUnder : MethodName := ⟨RX7, "isUnder", "(II)Z"⟩
abbrev cX7_tenTo : ByteArray := prog_1_method_53_code
def yX7_tenTo : MethodName := ⟨RX7, "tenTo", "(I)I"⟩
def RX8 : String := "PieFunnelsModel"
def TX8 : u_T := fun k => match k with
  | 0 => ("PieFunnelsModel", "birds", "I", false)
  | 1 => ("PieFunnelsModel", "kind", "[I", true)
  | 2 => ("PieFunnelsModel", "a", "[I", true)
  | 3 => ("PieFunnelsModel", "mouth", "[I", true)
  | 4 => ("PieFunnelsModel", "ways", "[I", true)
  | 5 => ("PieFunnelsModel", "table", "[I", true)
  | 6 => ("PieFunnelsModel", "bakes", "I", false)
  | 7 => ("PieFunnelsModel", "suffered", "I", false)
  | 8 => ("PieFunnelsModel", "seed", "I", false)
  | 9 => ("PieFunnelsModel", "holding", "[I", true)
  | 10 => ("PieFunnelsModel", "rowLength", "[I", true)
  | 11 => ("PieFunnelsModel", "rowOf", "[J", true)
  | 12 => ("PieFunnelsModel", "reading", "I", false)
  | 13 => ("PieFunnelsModel", "at", "I", false)
  | 14 => ("PieFunnelsModel", "numbers", "[I", true)
  | 15 => ("PieFunnelsModel", "fault", "I", false)
  | 16 => ("PieFunnelsModel", "ahead", "[I", true)
  | 17 => ("PieFunnelsModel", "traced", "I", false)
  | 18 => ("PieFunnelsModel", "traces", "[I", true)
  | 19 => ("PieFunnelsModel", "refusals", "[I", true)
  | 20 => ("PieFunnelsModel", "imaged", "Z", false)
  | 21 => ("PieFunnelsModel", "old", "[I", true)
  | 22 => ("PieFunnelsModel", "laid", "I", false)
  | 23 => ("PieFunnelsModel", "pie", "[I", true)
  | 24 => ("PieFunnelsModel", "many", "I", false)
  | 25 => ("PieFunnelsModel", "signs", "[I", true)
  | 26 => ("PieFunnelsModel", "ended", "I", false)
  | 27 => ("PieFunnelsModel", "ills", "I", false)
  | 28 => ("PieFunnelsModel", "group", "[I", true)
  | 29 => ("PieFunnelsModel", "groupSigns", "[I", true)
  | 30 => ("PieFunnelsModel", "wished", "[I", true)
  | 31 => ("PieFunnelsModel", "tribes", "I", false)
  | 32 => ("PieFunnelsModel", "brought", "[I", true)
  | 33 => ("PieFunnelsModel", "tried", "[I", true)
  | 34 => ("PieFunnelsModel", "best", "[I", true)
  | 35 => ("PieFunnelsModel", "most", "I", false)
  | _ => ("PieFunnelsModel", "oldSeed", "I", false)
def tyX8 : Nat → FieldType := fun k => match k with
  | 0 => .int
  | 1 => .array .int
  | 2 => .array .int
  | 3 => .array .int
  | 4 => .array .int
  | 5 => .array .int
  | 6 => .int
  | 7 => .int
  | 8 => .int
  | 9 => .array .int
  | 10 => .array .int
  | 11 => .array .long
  | 12 => .int
  | 13 => .int
  | 14 => .array .int
  | 15 => .int
  | 16 => .array .int
  | 17 => .int
  | 18 => .array .int
  | 19 => .array .int
  | 20 => .boolean
  | 21 => .array .int
  | 22 => .int
  | 23 => .array .int
  | 24 => .int
  | 25 => .array .int
  | 26 => .int
  | 27 => .int
  | 28 => .array .int
  | 29 => .array .int
  | 30 => .array .int
  | 31 => .int
  | 32 => .array .int
  | 33 => .array .int
  | 34 => .array .int
  | 35 => .int
  | _ => .int
theorem nmX8 : ∀ a, a < 37 → ∀ b, b < 37 → a ≠ b → (TX8 a).2.1 ≠ (TX8 b).2.1 := by decide +kernel
theorem tyX8_ok : ∀ k, k < 37 → parseFieldDescriptor (TX8 k).2.2.1 = some (tyX8 k) := by decide +kernel
abbrev cX8_init : ByteArray := prog_10_method_1_code
def yX8_init : MethodName := ⟨RX8, "<init>", "()V"⟩
abbrev cX8_no : ByteArray := prog_10_method_2_code
def yX8_no : MethodName := ⟨RX8, "no", "(I)I"⟩
abbrev cX8_no10 : ByteArray := prog_10_method_3_code
def yX8_no10 : MethodName := ⟨RX8, "no10", "(I)I"⟩
abbrev cX8_within : ByteArray := prog_10_method_4_code
def yX8_within : MethodName := ⟨RX8, "within", "(III)Z"⟩
abbrev cX8_isBird : ByteArray := prog_10_method_5_code
def yX8_isBird : MethodName := ⟨RX8, "isBird", "(I)Z"⟩
abbrev cX8_isState : ByteArray := prog_10_method_6_code
def yX8_isState : MethodName := ⟨RX8, "isState", "(I)Z"⟩
abbrev cX8_isRow : ByteArray := prog_10_method_7_code
def yX8_isRow : MethodName := ⟨RX8, "isRow", "(I)Z"⟩
abbrev cX8_row : ByteArray := prog_10_method_8_code
def yX8_row : MethodName := ⟨RX8, "row", "(III)I"⟩
abbrev cX8_noRow : ByteArray := prog_10_method_9_code
def yX8_noRow : MethodName := ⟨RX8, "noRow", "(I)I"⟩
abbrev cX8_set : ByteArray := prog_10_method_10_code
def yX8_set : MethodName := ⟨RX8, "set", "(IIJ)I"⟩
abbrev cX8_copy : ByteArray := prog_10_method_11_code
def yX8_copy : MethodName := ⟨RX8, "copy", "(IIIII)I"⟩
abbrev cX8_element : ByteArray := prog_10_method_12_code
def yX8_element : MethodName := ⟨RX8, "element", "(II)J"⟩
abbrev cX8_show : ByteArray := prog_10_method_13_code
def yX8_show : MethodName := ⟨RX8, "show", "(II)I"⟩
abbrev cX8_holds : ByteArray := prog_10_method_14_code
def yX8_holds : MethodName := ⟨RX8, "holds", "(I)I"⟩
abbrev cX8_above : ByteArray := prog_10_method_15_code
def yX8_above : MethodName := ⟨RX8, "above", "(I)I"⟩
abbrev cX8_isUnder : ByteArray := prog_10_method_16_code
def yX8_isUnder : MethodName := ⟨RX8, "isUnder", "(II)Z"⟩
abbrev cX8_says : ByteArray := prog_10_method_17_code
def yX8_says : MethodName := ⟨RX8, "says", "(II)I"⟩
abbrev cX8_newBird : ByteArray := prog_10_method_18_code
def yX8_newBird : MethodName := ⟨RX8, "newBird", "(III)I"⟩
abbrev cX8_bird : ByteArray := prog_10_method_19_code
def yX8_bird : MethodName := ⟨RX8, "bird", "(III)I"⟩
abbrev cX8_ask : ByteArray := prog_10_method_20_code
def yX8_ask : MethodName := ⟨RX8, "ask", "(II)I"⟩
abbrev cX8_isPart : ByteArray := prog_10_method_21_code
def yX8_isPart : MethodName := ⟨RX8, "isPart", "(II)Z"⟩
abbrev cX8_table : ByteArray := prog_10_method_22_code
def yX8_table : MethodName := ⟨RX8, "table", "(III)I"⟩
abbrev cX8_comes : ByteArray := prog_10_method_23_code
def yX8_comes : MethodName := ⟨RX8, "comes", "(II)I"⟩
abbrev cX8_birdOf : ByteArray := prog_10_method_24_code
def yX8_birdOf : MethodName := ⟨RX8, "birdOf", "(II)I"⟩
abbrev cX8_sign : ByteArray := prog_10_method_25_code
def yX8_sign : MethodName := ⟨RX8, "sign", "()I"⟩
abbrev cX8_is : ByteArray := prog_10_method_26_code
def yX8_is : MethodName := ⟨RX8, "is", "(C)Z"⟩
abbrev cX8_word : ByteArray := prog_10_method_27_code
def yX8_word : MethodName := ⟨RX8, "word", "(Ljava/lang/String;)Z"⟩
abbrev cX8_word_ : ByteArray := prog_10_method_28_code
def yX8_word_ : MethodName := ⟨RX8, "word", "(Ljava/lang/String;Z)Z"⟩
abbrev cX8_number : ByteArray := prog_10_method_29_code
def yX8_number : MethodName := ⟨RX8, "number", "(III)Z"⟩
abbrev cX8_item : ByteArray := prog_10_method_30_code
def yX8_item : MethodName := ⟨RX8, "item", "()Z"⟩
abbrev cX8_bakery : ByteArray := prog_10_method_31_code
def yX8_bakery : MethodName := ⟨RX8, "bakery", "(I)I"⟩
abbrev cX8_fault : ByteArray := prog_10_method_32_code
def yX8_fault : MethodName := ⟨RX8, "fault", "()I"⟩
abbrev cX8_toldAt : ByteArray := prog_10_method_33_code
def yX8_toldAt : MethodName := ⟨RX8, "toldAt", "(II)I"⟩
abbrev cX8_isPie : ByteArray := prog_10_method_34_code
def yX8_isPie : MethodName := ⟨RX8, "isPie", "(II)Z"⟩
abbrev cX8_plain : ByteArray := prog_10_method_35_code
def yX8_plain : MethodName := ⟨RX8, "plain", "(II)I"⟩
abbrev cX8_chipped : ByteArray := prog_10_method_36_code
def yX8_chipped : MethodName := ⟨RX8, "chipped", "(II)I"⟩
abbrev cX8_widowed : ByteArray := prog_10_method_37_code
def yX8_widowed : MethodName := ⟨RX8, "widowed", "(II)I"⟩
abbrev cX8_sorts : ByteArray := prog_10_method_38_code
def yX8_sorts : MethodName := ⟨RX8, "sorts", "()V"⟩
abbrev cX8_tells : ByteArray := prog_10_method_39_code
def yX8_tells : MethodName := ⟨RX8, "tells", "(I)V"⟩
abbrev cX8_goes : ByteArray := prog_10_method_40_code
def yX8_goes : MethodName := ⟨RX8, "goes", "(II)V"⟩
abbrev cX8_has : ByteArray := prog_10_method_41_code
def yX8_has : MethodName := ⟨RX8, "has", "(II)Z"⟩
abbrev cX8_noPie : ByteArray := prog_10_method_42_code
def yX8_noPie : MethodName := ⟨RX8, "noPie", "(II)I"⟩
abbrev cX8_noRows : ByteArray := prog_10_method_43_code
def yX8_noRows : MethodName := ⟨RX8, "noRows", "(II)I"⟩
abbrev cX8_said : ByteArray := prog_10_method_44_code
def yX8_said : MethodName := ⟨RX8, "said", "(III)I"⟩
abbrev cX8_brings : ByteArray := prog_10_method_45_code
def yX8_brings : MethodName := ⟨RX8, "brings", "(III)I"⟩
abbrev cX8_pow : ByteArray := prog_10_method_46_code
def yX8_pow : MethodName := ⟨RX8, "pow", "(I)I"⟩
abbrev cX8_lays : ByteArray := prog_10_method_47_code
def yX8_lays : MethodName := ⟨RX8, "lays", "(II)V"⟩
abbrev cX8_soonest : ByteArray := prog_10_method_48_code
def yX8_soonest : MethodName := ⟨RX8, "soonest", "(III)I"⟩
abbrev cX8_safe : ByteArray := prog_10_method_49_code
def yX8_safe : MethodName := ⟨RX8, "safe", "(I)I"⟩
abbrev cX8_isSaid : ByteArray := prog_10_method_50_code
def yX8_isSaid : MethodName := ⟨RX8, "isSaid", "(II)Z"⟩
abbrev cX8_kindsSo : ByteArray := prog_10_method_51_code
def yX8_kindsSo : MethodName := ⟨RX8, "kindsSo", "(II)I"⟩
abbrev cX8_heatsSo : ByteArray := prog_10_method_52_code
def yX8_heatsSo : MethodName := ⟨RX8, "heatsSo", "(II)I"⟩
abbrev cX8_mouthsSo : ByteArray := prog_10_method_53_code
def yX8_mouthsSo : MethodName := ⟨RX8, "mouthsSo", "(II)I"⟩
abbrev cX8_fits : ByteArray := prog_10_method_54_code
def yX8_fits : MethodName := ⟨RX8, "fits", "(IIII)I"⟩
abbrev cX8_pies : ByteArray := prog_10_method_55_code
def yX8_pies : MethodName := ⟨RX8, "pies", "(IIII)I"⟩
abbrev cX8_worst : ByteArray := prog_10_method_56_code
def yX8_worst : MethodName := ⟨RX8, "worst", "(I)I"⟩
abbrev cX8_next : ByteArray := prog_10_method_57_code
def yX8_next : MethodName := ⟨RX8, "next", "(I)I"⟩
abbrev cX8_unknown : ByteArray := prog_10_method_58_code
def yX8_unknown : MethodName := ⟨RX8, "unknown", "()I"⟩
abbrev cX8_chance : ByteArray := prog_10_method_59_code
def yX8_chance : MethodName := ⟨RX8, "chance", "(IIII)I"⟩
abbrev cX8_minutes : ByteArray := prog_10_method_60_code
def yX8_minutes : MethodName := ⟨RX8, "minutes", "(II)I"⟩
abbrev cX8_after : ByteArray := prog_10_method_61_code
def yX8_after : MethodName := ⟨RX8, "after", "(III)I"⟩
abbrev cX8_fewestIlls : ByteArray := prog_10_method_62_code
def yX8_fewestIlls : MethodName := ⟨RX8, "fewestIlls", "(I)I"⟩
abbrev cX8_kings : ByteArray := prog_10_method_63_code
def yX8_kings : MethodName := ⟨RX8, "kings", "(III)I"⟩
abbrev cX8_parts : ByteArray := prog_10_method_64_code
def yX8_parts : MethodName := ⟨RX8, "parts", "(III)V"⟩
abbrev cX8_areWishes : ByteArray := prog_10_method_65_code
def yX8_areWishes : MethodName := ⟨RX8, "areWishes", "(I)Z"⟩
abbrev cX8_tribes : ByteArray := prog_10_method_66_code
def yX8_tribes : MethodName := ⟨RX8, "tribes", "(III)I"⟩
abbrev cX8_alike : ByteArray := prog_10_method_67_code
def yX8_alike : MethodName := ⟨RX8, "alike", "(II)I"⟩
abbrev cX8_judge : ByteArray := prog_10_method_68_code
def yX8_judge : MethodName := ⟨RX8, "judge", "(III)I"⟩
abbrev cX8_bakes : ByteArray := prog_10_method_69_code
def yX8_bakes : MethodName := ⟨RX8, "bakes", "(I)V"⟩
abbrev cX8_bake : ByteArray := prog_10_method_70_code
def yX8_bake : MethodName := ⟨RX8, "bake", "(II)I"⟩
abbrev cX8_draw : ByteArray := prog_10_method_71_code
def yX8_draw : MethodName := ⟨RX8, "draw", "(I)I"⟩
abbrev cX8_years : ByteArray := prog_10_method_72_code
def yX8_years : MethodName := ⟨RX8, "years", "(I)I"⟩
abbrev cX8_seed : ByteArray := prog_10_method_73_code
def yX8_seed : MethodName := ⟨RX8, "seed", "(I)I"⟩
abbrev cX8_ran : ByteArray := prog_10_method_74_code
def yX8_ran : MethodName := ⟨RX8, "ran", "(I)V"⟩
abbrev cX8_singsBy : ByteArray := prog_10_method_75_code
def yX8_singsBy : MethodName := ⟨RX8, "singsBy", "(III)I"⟩
abbrev cX8_steamsBy : ByteArray := prog_10_method_76_code
def yX8_steamsBy : MethodName := ⟨RX8, "steamsBy", "(III)I"⟩
abbrev cX8_fallsBy : ByteArray := prog_10_method_77_code
def yX8_fallsBy : MethodName := ⟨RX8, "fallsBy", "(III)I"⟩
abbrev cX8_act : ByteArray := prog_10_method_78_code
def yX8_act : MethodName := ⟨RX8, "act", "(III)I"⟩
abbrev cX8_trace : ByteArray := prog_10_method_79_code
def yX8_trace : MethodName := ⟨RX8, "trace", "(I)I"⟩
abbrev cX8_keep : ByteArray := prog_10_method_80_code
def yX8_keep : MethodName := ⟨RX8, "keep", "([I)V"⟩
abbrev cX8_again : ByteArray := prog_10_method_81_code
def yX8_again : MethodName := ⟨RX8, "again", "([I)V"⟩
abbrev cX8_image : ByteArray := prog_10_method_82_code
def yX8_image : MethodName := ⟨RX8, "image", "()I"⟩
abbrev cX8_restore : ByteArray := prog_10_method_83_code
def yX8_restore : MethodName := ⟨RX8, "restore", "()I"⟩
abbrev cX8_status : ByteArray := prog_10_method_84_code
def yX8_status : MethodName := ⟨RX8, "status", "(I)I"⟩
def RJ9 : String := "java/lang/Math"
def TJ9 : u_T := fun k => match k with
  | _ => ("", "", "", false)
def tyJ9 : Nat → FieldType := fun k => match k with
  | _ => .int
theorem nmJ9 : ∀ a, a < 0 → ∀ b, b < 0 → a ≠ b → (TJ9 a).2.1 ≠ (TJ9 b).2.1 := by decide +kernel
theorem tyJ9_ok : ∀ k, k < 0 → parseFieldDescriptor (TJ9 k).2.2.1 = some (tyJ9 k) := by decide +kernel
abbrev cJ9_max_7cf53 : ByteArray := prog_11_method_65_code
def yJ9_max_7cf53 : MethodName := ⟨RJ9, "max", "(II)I"⟩
abbrev cJ9_min_7cf53 : ByteArray := prog_11_method_69_code
def yJ9_min_7cf53 : MethodName := ⟨RJ9, "min", "(II)I"⟩
def RJ0 : String := "java/lang/String"
def TJ0 : u_T := fun k => match k with
  | _ => ("", "", "", false)
def tyJ0 : Nat → FieldType := fun k => match k with
  | _ => .int
theorem nmJ0 : ∀ a, a < 0 → ∀ b, b < 0 → a ≠ b → (TJ0 a).2.1 ≠ (TJ0 b).2.1 := by decide +kernel
theorem tyJ0_ok : ∀ k, k < 0 → parseFieldDescriptor (TJ0 k).2.2.1 = some (tyJ0 k) := by decide +kernel
abbrev cJ0_length_8abf5 : ByteArray := prog_12_method_54_code
def yJ0_length_8abf5 : MethodName := ⟨RJ0, "length", "()I"⟩
abbrev cJ0_isEmpty_aae02 : ByteArray := prog_12_method_55_code
def yJ0_isEmpty_aae02 : MethodName := ⟨RJ0, "isEmpty", "()Z"⟩
abbrev cJ0_charAt_5068e : ByteArray := prog_12_method_56_code
def yJ0_charAt_5068e : MethodName := ⟨RJ0, "charAt", "(I)C"⟩
abbrev cJ0_coder_7d493 : ByteArray := prog_12_method_152_code
def yJ0_coder_7d493 : MethodName := ⟨RJ0, "coder", "()B"⟩
abbrev cJ0_isLatin1_aae02 : ByteArray := prog_12_method_154_code
def yJ0_isLatin1_aae02 : MethodName := ⟨RJ0, "isLatin1", "()Z"⟩
abbrev cJ0_checkIndex_df160 : ByteArray := prog_12_method_155_code
def yJ0_checkIndex_df160 : MethodName := ⟨RJ0, "checkIndex", "(II)V"⟩
def RJ1 : String := "java/lang/StringLatin1"
def TJ1 : u_T := fun k => match k with
  | _ => ("", "", "", false)
def tyJ1 : Nat → FieldType := fun k => match k with
  | _ => .int
theorem nmJ1 : ∀ a, a < 0 → ∀ b, b < 0 → a ≠ b → (TJ1 a).2.1 ≠ (TJ1 b).2.1 := by decide +kernel
theorem tyJ1_ok : ∀ k, k < 0 → parseFieldDescriptor (TJ1 k).2.2.1 = some (tyJ1 k) := by decide +kernel
abbrev cJ1_charAt_3b067 : ByteArray := prog_13_method_2_code
def yJ1_charAt_3b067 : MethodName := ⟨RJ1, "charAt", "([BI)C"⟩
def RJ2 : String := "java/lang/StringUTF16"
def TJ2 : u_T := fun k => match k with
  | _ => ("", "", "", false)
def tyJ2 : Nat → FieldType := fun k => match k with
  | _ => .int
theorem nmJ2 : ∀ a, a < 0 → ∀ b, b < 0 → a ≠ b → (TJ2 a).2.1 ≠ (TJ2 b).2.1 := by decide +kernel
theorem tyJ2_ok : ∀ k, k < 0 → parseFieldDescriptor (TJ2 k).2.2.1 = some (tyJ2 k) := by decide +kernel
abbrev cJ2_getChar_3b067 : ByteArray := prog_14_method_5_code
def yJ2_getChar_3b067 : MethodName := ⟨RJ2, "getChar", "([BI)C"⟩
abbrev cJ2_length_9d52b : ByteArray := prog_14_method_6_code
def yJ2_length_9d52b : MethodName := ⟨RJ2, "length", "([B)I"⟩
abbrev cJ2_charAt_3b067 : ByteArray := prog_14_method_83_code
def yJ2_charAt_3b067 : MethodName := ⟨RJ2, "charAt", "([BI)C"⟩
abbrev cJ2_checkIndex_2214a : ByteArray := prog_14_method_91_code
def yJ2_checkIndex_2214a : MethodName := ⟨RJ2, "checkIndex", "(I[B)V"⟩
def RJ10 : String := "java/lang/System"
def TJ10 : u_T := fun k => match k with
  | _ => ("", "", "", false)
def tyJ10 : Nat → FieldType := fun k => match k with
  | _ => .int
theorem nmJ10 : ∀ a, a < 0 → ∀ b, b < 0 → a ≠ b → (TJ10 a).2.1 ≠ (TJ10 b).2.1 := by decide +kernel
theorem tyJ10_ok : ∀ k, k < 0 → parseFieldDescriptor (TJ10 k).2.2.1 = some (tyJ10 k) := by decide +kernel
def RJ3 : String := "jdk/internal/util/Preconditions"
def TJ3 : u_T := fun k => match k with
  | _ => ("", "", "", false)
def tyJ3 : Nat → FieldType := fun k => match k with
  | _ => .int
theorem nmJ3 : ∀ a, a < 0 → ∀ b, b < 0 → a ≠ b → (TJ3 a).2.1 ≠ (TJ3 b).2.1 := by decide +kernel
theorem tyJ3_ok : ∀ k, k < 0 → parseFieldDescriptor (TJ3 k).2.2.1 = some (tyJ3 k) := by decide +kernel
abbrev cJ3_checkIndex_8e157 : ByteArray := prog_16_method_11_code
def yJ3_checkIndex_8e157 : MethodName := ⟨RJ3, "checkIndex", "(IILjava/util/function/BiFunction;)I"⟩
def RL : String := "PieFunnelsLaw"
abbrev cL_law : ByteArray := code
def yL_law : MethodName := ⟨RL, "law", "([I)Z"⟩
abbrev vwCl : List vw_C := [(RX0, TX0, 11), (RX1, TX1, 5), (RX2, TX2, 5), (RX3, TX3, 2), (RX4, TX4, 4), (RX5, TX5, 5), (RX6, TX6, 6), (RX7, TX7, 12), (RX8, TX8, 37)]
end
section
def fk_nF : List (String × Nat × String × String × String) := [("PieFunnels$Reader", 64, "PieFunnels$Bakery", "birds", "I"), ("PieFunnels", 171, "PieFunnels$Bakery", "birds", "I"), ("PieFunnels$Voice", 37, "PieFunnels$Bakery", "kinds", "[I"), ("PieFunnels$Moves", 34, "PieFunnels$Bakery", "kinds", "[I"), ("PieFunnels", 142, "PieFunnels$Bakery", "kinds", "[I"), ("PieFunnels$Voice", 40, "PieFunnels$Bakery", "as", "[I"), ("PieFunnels$Moves", 37, "PieFunnels$Bakery", "as", "[I"), ("PieFunnels", 193, "PieFunnels$Bakery", "as", "[I"), ("PieFunnels$Voice", 43, "PieFunnels$Bakery", "mouths", "[I"), ("PieFunnels", 196, "PieFunnels$Bakery", "mouths", "[I"), ("PieFunnels$Voice", 46, "PieFunnels$Bakery", "heat", "I"), ("PieFunnels$Reader", 88, "PieFunnels$Bakery", "heat", "I"), ("PieFunnels", 178, "PieFunnels$Bakery", "heat", "I"), ("PieFunnels$Reader", 91, "PieFunnels$Bakery", "state", "I"), ("PieFunnels", 181, "PieFunnels$Bakery", "state", "I"), ("PieFunnels$Reader", 97, "PieFunnels$Bakery", "troubles", "I"), ("PieFunnels", 184, "PieFunnels$Bakery", "troubles", "I"), ("PieFunnels", 328, "PieFunnels$Bakery", "bakes", "I"), ("PieFunnels", 305, "PieFunnels$Bakery", "suffered", "I"), ("PieFunnels", 308, "PieFunnels$Bakery", "seed", "I"), ("PieFunnels", 207, "PieFunnels$Reader", "fault", "I"), ("PieFunnels", 325, "PieFunnels$Moves", "trace", "[I"), ("PieFunnels", 331, "PieFunnels$Moves", "ran", "I"), ("PieFunnels", 315, "PieFunnels$Moves", "kind", "I"), ("PieFunnels$Voice", 83, "PieFunnels$Pie", "stuffings", "[I"), ("PieFunnels", 231, "PieFunnels$Pie", "stuffings", "[I"), ("PieFunnels$Voice", 69, "PieFunnels$Pie", "layers", "I"), ("PieFunnels", 228, "PieFunnels$Pie", "layers", "I"), ("PieFunnels", 334, "PieFunnels$Voice", "kind", "I"), ("PieFunnels", 168, "PieFunnels$Voice", "a", "I"), ("PieFunnels", 152, "PieFunnels$Voice", "mouth", "I"), ("PieFunnels", 270, "PieFunnels$Voice", "heat", "I"), ("PieFunnels$Bakery", 56, "PieFunnels$Voice", "count", "I"), ("PieFunnels", 162, "PieFunnels$Voice", "count", "I"), ("PieFunnels$Bakery", 61, "PieFunnels$Voice", "signs", "[I"), ("PieFunnels", 165, "PieFunnels$Voice", "signs", "[I"), ("PieFunnels", 277, "PieFunnels$Parting", "tribes", "I"), ("PieFunnels", 286, "PieFunnels$Parting", "served", "I"), ("PieFunnels", 133, "PieFunnels$Shelf", "content", "I"), ("PieFunnels", 136, "PieFunnels$Shelf", "bird", "I"), ("PieFunnels", 102, "PieFunnels$Shelf", "sort", "I"), ("PieFunnels$Pie", 19, "PieFunnels$Shelf", "size", "I"), ("PieFunnels$Parting", 28, "PieFunnels$Shelf", "size", "I"), ("PieFunnels$Reader", 34, "PieFunnels$Shelf", "size", "I"), ("PieFunnels", 90, "PieFunnels$Shelf", "size", "I"), ("PieFunnels$Voice", 90, "PieFunnels$Shelf", "size", "I"), ("PieFunnels", 109, "PieFunnels$Shelf", "cells", "[J"), ("PieFunnels$Reader", 115, "PieFunnels$Shelf", "cells", "[J"), ("PieFunnels$Moves", 49, "PieFunnels", "KIND_ABOVE", "[I")]
def fk_nM : List (String × Nat × MethodName) := [("PieFunnels", 17, ⟨"PieFunnels$Bakery", "<init>", "()V"⟩), ("PieFunnels", 34, ⟨"PieFunnels$Reader", "<init>", "()V"⟩), ("PieFunnels", 41, ⟨"PieFunnels$Moves", "<init>", "()V"⟩), ("PieFunnels", 48, ⟨"PieFunnels$Pie", "<init>", "()V"⟩), ("PieFunnels", 55, ⟨"PieFunnels$Voice", "<init>", "()V"⟩), ("PieFunnels", 65, ⟨"PieFunnels$Parting", "<init>", "()V"⟩), ("PieFunnels", 74, ⟨"PieFunnels$Shelf", "<init>", "()V"⟩), ("PieFunnels", 83, ⟨"PieFunnels$Shelf", "holdRow", "(II)V"⟩), ("PieFunnels", 94, ⟨"PieFunnels$Shelf", "put", "(IJ)V"⟩), ("PieFunnels", 105, ⟨"PieFunnels$Shelf", "hasSpan", "(II)Z"⟩), ("PieFunnels", 119, ⟨"PieFunnels$Shelf", "whole", "(I)J"⟩), ("PieFunnels", 123, ⟨"PieFunnels$Shelf", "holdNothing", "()V"⟩), ("PieFunnels", 126, ⟨"PieFunnels$Bakery", "lacks", "(I)Z"⟩), ("PieFunnels", 129, ⟨"PieFunnels$Shelf", "holdBird", "(I)V"⟩), ("PieFunnels", 148, ⟨"PieFunnels$Voice", "take", "(LPieFunnels$Bakery;I)V"⟩), ("PieFunnels$Voice", 31, ⟨"PieFunnels$Bakery", "lacks", "(I)Z"⟩), ("PieFunnels", 155, ⟨"PieFunnels$Pie", "setByNumber", "(II)V"⟩), ("PieFunnels", 158, ⟨"PieFunnels$Voice", "speak", "(LPieFunnels$Pie;)V"⟩), ("PieFunnels", 174, ⟨"PieFunnels$Bakery", "add", "(III)V"⟩), ("PieFunnels", 187, ⟨"PieFunnels$Bakery", "comingBy", "(II)I"⟩), ("PieFunnels", 190, ⟨"PieFunnels$Bakery", "setComing", "(III)V"⟩), ("PieFunnels", 199, ⟨"PieFunnels$Bakery", "become", "(LPieFunnels$Bakery;)V"⟩), ("PieFunnels", 203, ⟨"PieFunnels$Reader", "read", "(LPieFunnels$Shelf;LPieFunnels$Bakery;)I"⟩), ("PieFunnels$Reader", 84, ⟨"PieFunnels$Bakery", "add", "(III)V"⟩), ("PieFunnels$Reader", 94, ⟨"PieFunnels$Bakery", "setComing", "(III)V"⟩), ("PieFunnels", 234, ⟨"PieFunnels$Pie", "take", "(LPieFunnels$Shelf;I)Z"⟩), ("PieFunnels$Pie", 24, ⟨"PieFunnels$Shelf", "number", "(I)I"⟩), ("PieFunnels", 217, ⟨"PieFunnels$Bakery", "endOf", "(LPieFunnels$Voice;I)I"⟩), ("PieFunnels", 221, ⟨"PieFunnels$Bakery", "illsOf", "(LPieFunnels$Voice;)I"⟩), ("PieFunnels", 250, ⟨"PieFunnels$Voice", "saysJust", "(LPieFunnels$Shelf;)Z"⟩), ("PieFunnels$Voice", 95, ⟨"PieFunnels$Shelf", "number", "(I)I"⟩), ("PieFunnels", 292, ⟨"PieFunnels$Voice", "saysSame", "(LPieFunnels$Voice;)Z"⟩), ("PieFunnels", 257, ⟨"PieFunnels$Pie", "unknowns", "()I"⟩), ("PieFunnels", 266, ⟨"PieFunnels$Pie", "fillUnknowns", "(I)V"⟩), ("PieFunnels", 338, ⟨"PieFunnels$Pie", "setLast", "(I)V"⟩), ("PieFunnels", 274, ⟨"PieFunnels$Parting", "takeWishes", "(LPieFunnels$Shelf;)Z"⟩), ("PieFunnels$Parting", 33, ⟨"PieFunnels$Shelf", "number", "(I)I"⟩), ("PieFunnels", 280, ⟨"PieFunnels$Parting", "bringsOf", "(II)V"⟩), ("PieFunnels", 283, ⟨"PieFunnels$Parting", "part", "(I)V"⟩), ("PieFunnels", 289, ⟨"PieFunnels$Parting", "whomHas", "(I)I"⟩), ("PieFunnels", 296, ⟨"PieFunnels$Shelf", "number", "(I)I"⟩), ("PieFunnels", 302, ⟨"PieFunnels$Bakery", "draw", "(I)I"⟩), ("PieFunnels", 311, ⟨"PieFunnels$Moves", "forget", "()V"⟩), ("PieFunnels", 314, ⟨"PieFunnels$Moves", "take", "(LPieFunnels$Bakery;I)V"⟩), ("PieFunnels$Moves", 28, ⟨"PieFunnels$Bakery", "lacks", "(I)Z"⟩), ("PieFunnels", 318, ⟨"PieFunnels$Moves", "run", "(LPieFunnels$Moves;IIII)I"⟩), ("PieFunnels", 322, ⟨"PieFunnels$Moves", "traced", "()I"⟩)]
def fk_strs : List (String × Nat × String × Nat) := [("PieFunnels$Reader", 100, "bird", 0), ("PieFunnels$Reader", 102, "heat", 1), ("PieFunnels$Reader", 103, "state", 2), ("PieFunnels$Reader", 104, "goes", 3), ("PieFunnels$Reader", 106, "ill", 4), ("PieFunnels$Reader", 108, "well", 5), ("PieFunnels$Reader", 110, "", 6), ("PieFunnelsModel", 159, "bird", 0), ("PieFunnelsModel", 167, "heat", 1), ("PieFunnelsModel", 169, "state", 2), ("PieFunnelsModel", 171, "goes", 3), ("PieFunnelsModel", 173, "ill", 4), ("PieFunnelsModel", 175, "well", 5)]
/-! The frame: one world of numbered cells, one state, one judgement fk_J that runs the machine beside a pure program. -/
abbrev fkS : Type := (Nat → Nat → Int32) × (Nat → Nat → Int32) × (Nat → Nat → Int64) × Option Nat
def gI (s : fkS) (f i : Nat) : Int32 := s.1 f i
def gA (s : fkS) (i : Nat) : Nat → Int32 := s.2.1 i
def gL (s : fkS) (i : Nat) : Nat → Int64 := s.2.2.1 i
def gT (s : fkS) : Option Nat := s.2.2.2
def sI (s : fkS) (f i : Nat) (v : Int32) : fkS := (fun f' i' => if f' = f ∧ i' = i then v else s.1 f' i', s.2)
def sAF (s : fkS) (i : Nat) (h : Nat → Int32) : fkS := (s.1, (fun i' => if i' = i then h else s.2.1 i'), s.2.2)
def sLF (s : fkS) (i : Nat) (h : Nat → Int64) : fkS := (s.1, s.2.1, (fun i' => if i' = i then h else s.2.2.1 i'), s.2.2.2)
def sT (s : fkS) (t : Option Nat) : fkS := (s.1, s.2.1, s.2.2.1, t)
def sA (s : fkS) (i j : Nat) (v : Int32) : fkS := sAF s i (upd (gA s i) j v)
def sL (s : fkS) (i j : Nat) (v : Int64) : fkS := sLF s i (vp_updL (gL s i) j v)
theorem gI_sI {s : fkS} {f i f' i' : Nat} {v : Int32} : gI (sI s f i v) f' i' = if f' = f ∧ i' = i then v else gI s f' i' := rfl
theorem gA_sI {s : fkS} {f i : Nat} {v : Int32} {i' : Nat} : gA (sI s f i v) i' = gA s i' := rfl
theorem gL_sI {s : fkS} {f i : Nat} {v : Int32} {i' : Nat} : gL (sI s f i v) i' = gL s i' := rfl
theorem gT_sI {s : fkS} {f i : Nat} {v : Int32} : gT (sI s f i v) = gT s := rfl
theorem gI_sAF {s : fkS} {i : Nat} {h : Nat → Int32} {f' i' : Nat} : gI (sAF s i h) f' i' = gI s f' i' := rfl
theorem gA_sAF {s : fkS} {i : Nat} {h : Nat → Int32} {i' : Nat} : gA (sAF s i h) i' = if i' = i then h else gA s i' := rfl
theorem gL_sAF {s : fkS} {i : Nat} {h : Nat → Int32} {i' : Nat} : gL (sAF s i h) i' = gL s i' := rfl
theorem gT_sAF {s : fkS} {i : Nat} {h : Nat → Int32} : gT (sAF s i h) = gT s := rfl
theorem gI_sLF {s : fkS} {i : Nat} {h : Nat → Int64} {f' i' : Nat} : gI (sLF s i h) f' i' = gI s f' i' := rfl
theorem gA_sLF {s : fkS} {i : Nat} {h : Nat → Int64} {i' : Nat} : gA (sLF s i h) i' = gA s i' := rfl
theorem gL_sLF {s : fkS} {i : Nat} {h : Nat → Int64} {i' : Nat} : gL (sLF s i h) i' = if i' = i then h else gL s i' := rfl
theorem gT_sLF {s : fkS} {i : Nat} {h : Nat → Int64} : gT (sLF s i h) = gT s := rfl
theorem gI_sT {s : fkS} {t : Option Nat} {f' i' : Nat} : gI (sT s t) f' i' = gI s f' i' := rfl
theorem gA_sT {s : fkS} {t : Option Nat} {i' : Nat} : gA (sT s t) i' = gA s i' := rfl
theorem gL_sT {s : fkS} {t : Option Nat} {i' : Nat} : gL (sT s t) i' = gL s i' := rfl
theorem gT_sT {s : fkS} {t : Option Nat} : gT (sT s t) = t := rfl
theorem gI_sA {s : fkS} {i j : Nat} {v : Int32} {f' i' : Nat} : gI (sA s i j v) f' i' = gI s f' i' := rfl
theorem gA_sA {s : fkS} {i j : Nat} {v : Int32} {i' : Nat} : gA (sA s i j v) i' = if i' = i then upd (gA s i) j v else gA s i' := rfl
theorem gL_sA {s : fkS} {i j : Nat} {v : Int32} {i' : Nat} : gL (sA s i j v) i' = gL s i' := rfl
theorem gT_sA {s : fkS} {i j : Nat} {v : Int32} : gT (sA s i j v) = gT s := rfl
theorem gI_sL {s : fkS} {i j : Nat} {v : Int64} {f' i' : Nat} : gI (sL s i j v) f' i' = gI s f' i' := rfl
theorem gA_sL {s : fkS} {i j : Nat} {v : Int64} {i' : Nat} : gA (sL s i j v) i' = gA s i' := rfl
theorem gL_sL {s : fkS} {i j : Nat} {v : Int64} {i' : Nat} : gL (sL s i j v) i' = if i' = i then vp_updL (gL s i) j v else gL s i' := rfl
theorem gT_sL {s : fkS} {i j : Nat} {v : Int64} : gT (sL s i j v) = gT s := rfl
/-- the pure programs' words -/
def fk_let {α β : Type} (a : α) (f : α → β) : β := f a
def fk_chk {α : Type} (b : Bool) (F : Option α) : Option α := match b with
  | true => F
  | false => none
def fk_in (i : Int32) (n : Nat) : Bool := !(decide (i < 0) || decide (n ≤ i.toNatClampNeg))
theorem fk_in_vp {i : Int32} {n : Nat} (h : fk_in i n = true) : vp_in i n := by
  unfold fk_in at h
  unfold vp_in
  simp only [Bool.not_eq_true', Bool.or_eq_false_iff, decide_eq_false_iff_not] at h
  exact fun q => q.elim h.1 h.2
def fk_nz (y : Int32) : Bool := !(decide (y = 0))
theorem fk_nz_ne {y : Int32} (h : fk_nz y = true) : ¬ y = 0 := by
  unfold fk_nz at h
  simpa using h
def fk_fuel : Nat := 1200
/-- the globals: addresses of the cells, the classes' numbers, the array classes, the two static rows, the seven texts and their bytes -/
abbrev fkG : Type := (Nat → Nat) × va_G × (ClassId × ClassId × ClassId) × (Nat × Nat) × ((Nat → Nat) × (Nat → Nat))
abbrev fkW : Type := (fkG → fkS → Nat → va_E) × Nat
abbrev fkK : Type := Program × Launch × Env × Room × State × MethodId × Array Value × List Frame × Method × Code × Option Value × fkS
def fk_r (g : fkG) (i : Nat) : Value := .ref (g.1 i)
def fk_q (g : fkG) (i : Nat) : Value := .ref (g.2.2.2.2.1 i)
def fk_ws (w : fkW) (g : fkG) (st : fkS) : va_W := (List.range w.2).map (fun i => (g.1 i, w.1 g st i))
def fk_A (w : fkW) (g : fkG) (sz : Nat) : Nat → Prop := fun q => (∃ i, i < w.2 ∧ q = g.1 i) ∨ sz ≤ q
def fk_inj (w : fkW) (g : fkG) : Prop := ∀ i j, i < w.2 → j < w.2 → g.1 i = g.1 j → i = j
def fk_tys (g : fkG) : List (ClassId × FieldType) := [(g.2.2.1.1, .int), (g.2.2.1.2.1, .long), (g.2.2.1.2.2, .object "PieFunnels$Shelf")]
def fk_nests : List Cond := fk_nF.map (fun q => .fieldLinkNest q.1 q.2.1 q.2.2.1 q.2.2.2.1 q.2.2.2.2 "PieFunnels") ++ fk_nM.map (fun q => .methodLinkNest q.1 q.2.1 q.2.2 "PieFunnels")
def fk_len : List Nat := [4, 4, 5, 4, 3, 4, 0]
def fk_byt : List (List Int32) := [[98, 105, 114, 100], [104, 101, 97, 116], [115, 116, 97, 116, 101], [103, 111, 101, 115], [105, 108, 108], [119, 101, 108, 108], []]
def fk_kaL : List Int32 := [-1, 0, 0, 1, 0, 2, 3]
def fk_boL : List Int32 := [10, 20, 0, 40, 51, 0, 70, 11, 0, 30, 0, 0, 0, 71, 12, 0, 0, 0, 50, 60, 0]
def fk_ka (j : Nat) : Int32 := fk_kaL.getD j 0
def fk_bo (j : Nat) : Int32 := fk_boL.getD j 0
/-- what stays as it is: links by the nest, the static rows, the texts -/
def fk_env (g : fkG) (A : Nat → Prop) (U : State) : Prop :=
  (∀ w ∈ fk_nests, va_Nw w U) ∧ va_Z "PieFunnels" "KIND_ABOVE" "[I" (.ref g.2.2.2.1.1) A U U.heap ∧ va_T .int g.2.2.2.1.1 7 (fun j => .int (fk_ka j)) A U U.heap ∧
  va_Z "PieFunnels$Moves" "BODIES" "[I" (.ref g.2.2.2.1.2) A U U.heap ∧ va_T .int g.2.2.2.1.2 21 (fun j => .int (fk_bo j)) A U U.heap ∧
  vk_S 7 fk_len fk_byt g.2.2.2.2.1 g.2.2.2.2.2 A U U.heap ∧ (∀ q ∈ fk_strs, vk_R q.1 q.2.1 q.2.2.1 (g.2.2.2.2.1 q.2.2.2) U) ∧
  va_Z "java/lang/String" "COMPACT_STRINGS" "Z" (.int 1) A U U.heap ∧ va_Zq "jdk/internal/util/Preconditions" "SIOOBE_FORMATTER" "Ljava/util/function/BiFunction;" A U U.heap
theorem fk_nests_warm {s U : State} (hW : s.WarmedH U.vm) (h : ∀ w ∈ fk_nests, va_Nw w s) : ∀ w ∈ fk_nests, va_Nw w U := by
  intro w hw
  have h1 := h w hw
  rcases List.mem_append.mp hw with q | q
  · obtain ⟨x, -, rfl⟩ := List.mem_map.mp q
    exact va_Nw.warmF hW h1
  · obtain ⟨x, -, rfl⟩ := List.mem_map.mp q
    exact va_Nw.warmM hW h1
theorem fk_nests_same {s U : State} (hv : s.vm = U.vm) (h : ∀ w ∈ fk_nests, va_Nw w s) : ∀ w ∈ fk_nests, va_Nw w U := by
  intro w hw
  have h1 := h w hw
  rcases List.mem_append.mp hw with q | q
  · obtain ⟨x, -, rfl⟩ := List.mem_map.mp q
    exact va_Nw.same rfl hv h1
  · obtain ⟨x, -, rfl⟩ := List.mem_map.mp q
    exact va_Nw.same rfl hv h1
theorem fk_env.blind {g : fkG} {A : Nat → Prop} {U : State} (h : fk_env g A U) (f : JFrame) (mk : MethodId) (a : Array Value) : fk_env g A (U.calling f mk a) := by
  obtain ⟨h1, h2, h3, h4, h5, h6, h7, h8, h9⟩ := h
  exact ⟨fk_nests_same (s := U) (U := U.calling f mk a) rfl h1, va_Z.moved (u := U) (U := U.calling f mk a) (Vm.Alike.refl U.vm) h2, va_T.moved (u := U) (U := U.calling f mk a) (Vm.Alike.refl U.vm) h3,
    va_Z.moved (u := U) (U := U.calling f mk a) (Vm.Alike.refl U.vm) h4, va_T.moved (u := U) (U := U.calling f mk a) (Vm.Alike.refl U.vm) h5,
    vk_S.moved (u := U) (U := U.calling f mk a) (Vm.Alike.refl U.vm) h6, fun q hq => vk_R.same (u := U) (U := U.calling f mk a) rfl (h7 q hq), va_Z.moved (u := U) (U := U.calling f mk a) (Vm.Alike.refl U.vm) h8, va_Zq.moved (u := U) (U := U.calling f mk a) (Vm.Alike.refl U.vm) h9⟩
theorem fk_env.go {g : fkG} {A B : Nat → Prop} {s U : State} (h : fk_env g A s) (hW : s.WarmedH U.vm) (hk : ∀ a : Nat, a < s.heap.size → ¬ A a → U.heap[a]? = s.heap[a]?) (hAB : ∀ q, B q → A q) : fk_env g B U := by
  obtain ⟨h1, h2, h3, h4, h5, h6, h7, h8, h9⟩ := h
  exact ⟨fk_nests_warm hW h1, (va_Z.moved hW.alike (h2.kept hk)).narrow hAB, (va_T.moved hW.alike (h3.kept hk)).narrow hAB, (va_Z.moved hW.alike (h4.kept hk)).narrow hAB, (va_T.moved hW.alike (h5.kept hk)).narrow hAB,
    (vk_S.moved hW.alike (h6.kept hk)).narrow hAB, fun q hq => vk_R.warm hW (h7 q hq), (va_Z.moved hW.alike (h8.kept hk)).narrow hAB, (va_Zq.moved hW.alike (h9.kept hk)).narrow hAB⟩
/-- the words: all of the tables that stay true -/
def fkB : List Cond := lw_tbl.filter goodWord
theorem fkB_in {w : Cond} (h : w ∈ lw_tbl) (hg : goodWord w = true) : w ∈ fkB := List.mem_filter.mpr ⟨h, hg⟩
theorem fkB_good {y : MethodName} {b : ByteArray} {n : Nat} {ret : Option FieldType} (h : Cond.code y b n ret ∈ fkB) : GoodIn fkB (Cond.code y b n ret :: fkB) := by
  intro w hw
  rcases List.mem_cons.mp hw with rfl | q
  · exact ⟨h, good_of_word rfl⟩
  · exact ⟨q, good_of_word (List.mem_filter.mp q).2⟩
/-- the world's cells -/
theorem fk_wat {w : fkW} {g : fkG} {st : fkS} {i : Nat} (h : i < w.2) : (fk_ws w g st)[i]? = some (g.1 i, w.1 g st i) := by
  simp [fk_ws, h]
theorem fk_wof {w : fkW} {g : fkG} {st : fkS} {i : Nat} {q : Nat × va_E} (h : (fk_ws w g st)[i]? = some q) : i < w.2 ∧ q = (g.1 i, w.1 g st i) := by
  have hi : i < w.2 := by
    have h1 := (List.getElem?_eq_some_iff.mp h).1
    simpa [fk_ws] using h1
  rw [fk_wat hi] at h
  exact ⟨hi, (Option.some.inj h).symm⟩
theorem fk_wset {w : fkW} {g : fkG} {st st' : fkS} {i : Nat} {e : va_E} (hi : i < w.2) (hE : ∀ j, j < w.2 → j ≠ i → w.1 g st' j = w.1 g st j) (he : w.1 g st' i = e) : (fk_ws w g st).set i (g.1 i, e) = fk_ws w g st' := by
  apply List.ext_getElem?
  intro k
  rw [List.getElem?_set]
  by_cases hk : i = k
  · subst hk
    have hl : i < (fk_ws w g st).length := by simpa [fk_ws] using hi
    rw [if_pos rfl, if_pos hl, fk_wat hi, he]
  · rw [if_neg hk]
    by_cases hk2 : k < w.2
    · rw [fk_wat hk2, fk_wat hk2, hE k hk2 (fun q => hk q.symm)]
    · have h1 : (fk_ws w g st)[k]? = none := by simp [fk_ws]; omega
      have h2 : (fk_ws w g st')[k]? = none := by simp [fk_ws]; omega
      rw [h1, h2]
theorem fk_wD {w : fkW} {g : fkG} (hi : fk_inj w g) (sz : Nat) (st : fkS) : va_D (fk_A w g sz) (fk_ws w g st) := by
  refine ⟨fun i j p q hp hq hpq => ?_, fun k q hk => ?_⟩
  · obtain ⟨h1, rfl⟩ := fk_wof hp
    obtain ⟨h2, rfl⟩ := fk_wof hq
    exact hi i j h1 h2 hpq
  · obtain ⟨h1, rfl⟩ := fk_wof hk
    exact Or.inl ⟨k, h1, rfl⟩
theorem fk_wX {w : fkW} {g : fkG} {sz : Nat} {st : fkS} : ∀ q, va_A (fk_ws w g st) sz q → fk_A w g sz q := by
  rintro q (⟨k, e, hk⟩ | h)
  · obtain ⟨h1, h2⟩ := fk_wof hk
    exact Or.inl ⟨k, h1, congrArg Prod.fst h2⟩
  · exact Or.inr h
/-- what holds of a state where a method is entered -/
def fk_B (w : fkW) (g : fkG) (st : fkS) (sz : Nat) (U : State) : Prop := U.heap.size = sz ∧ va_P g.2.1 vwCl (fk_ws w g st) U.heap ∧ va_K g.2.1 vwCl (fk_tys g) U ∧ fk_env g (fk_A w g sz) U
def fk_Q (w : fkW) (g : fkG) (sz : Nat) (rv : Option Value) (st' : fkS) : Array Value → State → Outcome → State → Prop := fun _ s0 oc t => oc = .returned rv ∧ va_P g.2.1 vwCl (fk_ws w g st') t.heap ∧ va_F (fk_A w g sz) s0 t
/-- a contract -/
def fk_C (w : fkW) (y : MethodName) (b : ByteArray) (n : Nat) (ret : Option FieldType) (fr lo : Nat) (l : Launch) (g : fkG) (av : List Value) (st : fkS) (rv : Option Value) (st' : fkS) : Prop :=
  fk_inj w g → ∀ sz : Nat, Met l y (Cond.code y b n ret :: fkB) ({ frames := fr, cells := 0, slots := 0, locals := lo }) (va_Pc av (fk_B w g st sz)) (fk_Q w g sz rv st') 0 0 (fk_A w g sz)
/-- the judgement -/
def fk_V (w : fkW) (g : fkG) (k : fkK) (pc : Nat) (lv : List (Nat × Value)) (stk : List Value) (st : fkS) : Prop := match k with
  | (p, l, e, R, s, m, args, below, meth, c, rv, sf) => ∀ (H : Heap) (locs : List Loc) (ls : Array Slot), lv_has ls c.maxLocals lv → va_P g.2.1 vwCl (fk_ws w g st) H → va_S (fk_A w g s.heap.size) s.heap H locs →
    W p l e R s m args below meth c H locs 0 0 (MQ below (fk_Q w g s.heap.size rv sf) args s 0 0 (fk_A w g s.heap.size)) (F0 m pc ls stk)
def fk_out (k : fkK) : Option Value × fkS := match k with
  | (_, _, _, _, _, _, _, _, _, _, rv, sf) => (rv, sf)
def fk_ok (w : fkW) (g : fkG) (k : fkK) (own : String) (cc : ByteArray) (nL : Nat) (ret : Option FieldType) (fr lo : Nat) : Prop := match k with
  | (p, _, _, R, s, m, args, _, meth, c, _, _) => p.tables.exec = Jvm.exec ∧ c.code = cc ∧ c.maxLocals = nL ∧ s.vm.findClass own = some m.cls ∧ (∀ w ∈ fkB, w.before args s = true) ∧ va_K g.2.1 vwCl (fk_tys g) s ∧ fk_env g (fk_A w g s.heap.size) s ∧
    meth.sig.returnType = ret ∧ meth.locks = false ∧ fk_inj w g ∧ fr ≤ R.frames ∧ lo ≤ R.locals
def fk_J (w : fkW) (g : fkG) {ρ : Type} (en : ρ → Option Value) (k : fkK) (pc : Nat) (lv : List (Nat × Value)) (stk : List Value) (st : fkS) (F : Option (ρ × fkS)) : Prop :=
  ∀ o : ρ × fkS, F = some o → (en o.1, o.2) = fk_out k → fk_V w g k pc lv stk st
def fk_eI (x : Int32) : Option Value := some (.int x)
def fk_eL (x : Int64) : Option Value := some (.long x)
def fk_eU (_ : Unit) : Option Value := none
def fk_eQ (g : fkG) (x : Nat) : Option Value := some (fk_q g x)
/-- a contract out of a walk -/
theorem fk_begin {w : fkW} {y : MethodName} {b : ByteArray} {n : Nat} {ret : Option FieldType} {fr lo : Nat} {l : Launch} {g : fkG} {av : List Value} {st : fkS} {ρ : Type} {en : ρ → Option Value} {F : Option (ρ × fkS)} (hy : plainName y.cls = true) (hs : (lg_sl av).length ≤ n)
    (h : ∀ k : fkK, fk_ok w g k y.cls b n ret fr lo → fk_J w g en k 0 (lv_args 0 av) [] st F) (o : ρ × fkS) (ho : F = some o) : fk_C w y b n ret fr lo l g av st (en o.1) o.2 := by
  intro hinj sz
  refine Met.ofW (cc := b) (maxL := n) (ret := ret) hy rfl ?_
  intro p e s m args below meth c s₁ B hml hv
  obtain ⟨rfl, hsz, hP, hK, hE⟩ := hv
  subst hsz
  have hts := atoms_spec (ws := Cond.code y b n ret :: fkB) B.pre
  have hlv := lv_entry av (n := n) hs
  rw [lg_entry_eq]
  have hk : fk_ok w g (p, l, e, (headSpec (Cond.code y b n ret :: fkB) ({ frames := fr, cells := 0, slots := 0, locals := lo })).room, s, m, av.toArray, below, meth, c, en o.1, o.2) y.cls b n ret fr lo :=
    ⟨B.exec, B.bytes, hml, findClass_of_methodNamed B.named, fun w hw => hts w (List.mem_cons_of_mem _ hw), hK, hE, B.returns, B.notSynchronized, hinj, Nat.le_refl _, Nat.le_refl _⟩
  exact h _ hk o ho rfl s.heap [] _ (by rw [hml]; exact hlv) hP va_S.rf
/-- what comes behind a call -/
theorem fk_after {p : Program} {l : Launch} {e : Env} {R : Room} {s : State} {m : MethodId} {args : Array Value} {below : List Frame} {meth : Method} {c : Code} {H : Heap} {locs : List Loc} {Q : State → Prop} {pc : Nat} {ls : Array Slot} {st0 rest : List Value}
    {D : va_G} {cl : List vw_C} {ws1 : va_W} {rv : Option Value} {A0 A1 : Nat → Prop} {H0 : Heap}
    (hr : va_Run p l e R s m args below meth c H locs 0 0 0 0 (F0 m pc ls st0) rest (fun s0 oc t => oc = .returned rv ∧ va_P D cl ws1 t.heap ∧ va_F A1 s0 t) A1) (hS : va_S A0 H0 H locs) (hA : ∀ q, q < H.size → A1 q → A0 q) (hf : ∀ q, A1 q → A0 q)
    (kk : ∀ (H1 : Heap) (locs1 : List Loc), va_P D cl ws1 H1 → va_S A0 H0 H1 locs1 → W p l e R s m args below meth c H1 locs1 0 0 Q (F0 m (pc + 3) ls (rv.toList ++ rest))) : W p l e R s m args below meth c H locs 0 0 Q (F0 m pc ls st0) := by
  intro T hT X
  obtain ⟨v, st₀, t, T', L, h0, X', hL, e1, e2, ⟨hv, hp, hz, hk⟩, st⟩ := hr T hT X
  cases hv
  rw [h0] at hz hk
  obtain ⟨t2, a1, b1⟩ := kk T'.heap (locs ++ L) (by rw [e1]; exact hp)
    ⟨Nat.le_trans hS.1 (by rw [e1]; exact hz), fun q h1 h2 => by rw [e1, hk q (Nat.lt_of_lt_of_le h1 hS.1) (fun z => h2 (hA q (Nat.lt_of_lt_of_le h1 hS.1) z))]; exact hS.2.1 q h1 h2, fun q hq => by
      rcases List.mem_append.mp hq with h | h
      · exact hS.2.2 q h
      · exact hf _ (hL q h)⟩ T' rfl X'
  exact ⟨t2, st t2 a1, b1⟩
theorem fk_A_up {w : fkW} {g : fkG} {a b : Nat} (h : a ≤ b) : ∀ q, fk_A w g b q → fk_A w g a q := by
  rintro q (h1 | h1)
  · exact Or.inl h1
  · exact Or.inr (Nat.le_trans h h1)
theorem fk_blind {w : fkW} {g : fkG} {st : fkS} {sz : Nat} {av : List Value} : FrameBlind (va_Pc av (fk_B w g st sz)) := by
  intro a U f mk h
  obtain ⟨h0, h1, h2, h3, h4⟩ := h
  exact ⟨h0, h1, h2, va_K.moved (u := U) (U := U.calling f mk a) (Vm.Alike.refl U.vm) h3, h4.blind f mk a⟩
theorem fk_pre {w : fkW} {g : fkG} {st : fkS} {av : List Value} {s U : State} {H : Heap} {locs : List Loc} (hK : va_K g.2.1 vwCl (fk_tys g) s) (hE : fk_env g (fk_A w g s.heap.size) s) (hP : va_P g.2.1 vwCl (fk_ws w g st) H) (hS : va_S (fk_A w g s.heap.size) s.heap H locs) (hU : U.heap = H) (hW : s.WarmedH U.vm) :
    va_Pc av (fk_B w g st H.size) av.toArray U := by
  subst hU
  exact ⟨rfl, rfl, hP, va_K.moved hW.alike hK, hE.go hW (fun a h1 h2 => hS.2.1 a h1 h2) (fk_A_up hS.1)⟩
end
section
def fk_rem (x y : Int32) : Int32 := x - x / y * y
def fk_ushr (x y : Int32) : Int32 := (x.toUInt32 >>> (y.toUInt32 &&& Int32.toUInt32 31)).toInt32
def fk_max (x y : Int32) : Int32 := if x < y then y else x
def fk_min (x y : Int32) : Int32 := if y < x then y else x
def fk_nzL (y : Int64) : Bool := !(decide (y = 0))
theorem fk_nzL_ne {y : Int64} (h : fk_nzL y = true) : ¬ y = 0 := by
  unfold fk_nzL at h
  simpa using h
theorem j_iconst {w : fkW} {g : fkG} {k : fkK} {ρ : Type} {en : ρ → Option Value} {own : String} {cc : ByteArray} {nL fr lo pc : Nat} {ret : Option FieldType} {lv : List (Nat × Value)} {stk : List Value} {st : fkS} {F : Option (ρ × fkS)} (hk : fk_ok w g k own cc nL ret fr lo) {n : Int} {v : Int32} (hdg : decode cc pc = .ok (.iconst n, 1)) (hv : Int32.ofInt n = v)
    (kk : fk_J w g en k (pc + 1) lv (.int v :: stk) st F) : fk_J w g en k pc lv (stk) st F := by
  intro o ho hq
  have kk := kk o ho hq
  obtain ⟨p, l, e, R, s, m, args, below, meth, c, rv, sf⟩ := k
  obtain ⟨hx, hb, hml, hown, hts, hK, hE, hr, hlk, hinj, hfr, hlo⟩ := hk
  intro H locs ls hl hP hS
  exact lv_iconst hx hb hdg hv (kk H locs ls hl hP hS)
theorem j_bipush {w : fkW} {g : fkG} {k : fkK} {ρ : Type} {en : ρ → Option Value} {own : String} {cc : ByteArray} {nL fr lo pc : Nat} {ret : Option FieldType} {lv : List (Nat × Value)} {stk : List Value} {st : fkS} {F : Option (ρ × fkS)} (hk : fk_ok w g k own cc nL ret fr lo) {n : Int} {v : Int32} (hdg : decode cc pc = .ok (.bipush n, 2)) (hv : (Int8.ofInt n).toInt32 = v)
    (kk : fk_J w g en k (pc + 2) lv (.int v :: stk) st F) : fk_J w g en k pc lv (stk) st F := by
  intro o ho hq
  have kk := kk o ho hq
  obtain ⟨p, l, e, R, s, m, args, below, meth, c, rv, sf⟩ := k
  obtain ⟨hx, hb, hml, hown, hts, hK, hE, hr, hlk, hinj, hfr, hlo⟩ := hk
  intro H locs ls hl hP hS
  exact lv_bipush hx hb hdg hv (kk H locs ls hl hP hS)
theorem j_sipush {w : fkW} {g : fkG} {k : fkK} {ρ : Type} {en : ρ → Option Value} {own : String} {cc : ByteArray} {nL fr lo pc : Nat} {ret : Option FieldType} {lv : List (Nat × Value)} {stk : List Value} {st : fkS} {F : Option (ρ × fkS)} (hk : fk_ok w g k own cc nL ret fr lo) {n : Int} {v : Int32} (hdg : decode cc pc = .ok (.sipush n, 3)) (hv : (Int16.ofInt n).toInt32 = v)
    (kk : fk_J w g en k (pc + 3) lv (.int v :: stk) st F) : fk_J w g en k pc lv (stk) st F := by
  intro o ho hq
  have kk := kk o ho hq
  obtain ⟨p, l, e, R, s, m, args, below, meth, c, rv, sf⟩ := k
  obtain ⟨hx, hb, hml, hown, hts, hK, hE, hr, hlk, hinj, hfr, hlo⟩ := hk
  intro H locs ls hl hP hS
  exact lv_sipush hx hb hdg hv (kk H locs ls hl hP hS)
theorem j_lconst {w : fkW} {g : fkG} {k : fkK} {ρ : Type} {en : ρ → Option Value} {own : String} {cc : ByteArray} {nL fr lo pc : Nat} {ret : Option FieldType} {lv : List (Nat × Value)} {stk : List Value} {st : fkS} {F : Option (ρ × fkS)} (hk : fk_ok w g k own cc nL ret fr lo) {n : Fin 2} {v : Int64} (hdg : decode cc pc = .ok (.lconst n, 1)) (hv : Int64.ofNat (n : Nat) = v)
    (kk : fk_J w g en k (pc + 1) lv (.long v :: stk) st F) : fk_J w g en k pc lv (stk) st F := by
  intro o ho hq
  have kk := kk o ho hq
  obtain ⟨p, l, e, R, s, m, args, below, meth, c, rv, sf⟩ := k
  obtain ⟨hx, hb, hml, hown, hts, hK, hE, hr, hlk, hinj, hfr, hlo⟩ := hk
  intro H locs ls hl hP hS
  exact lv_lconst hx hb hdg hv (kk H locs ls hl hP hS)
theorem j_ldc {w : fkW} {g : fkG} {k : fkK} {ρ : Type} {en : ρ → Option Value} {own : String} {cc : ByteArray} {nL fr lo pc : Nat} {ret : Option FieldType} {lv : List (Nat × Value)} {stk : List Value} {st : fkS} {F : Option (ρ × fkS)} (hk : fk_ok w g k own cc nL ret fr lo) {i : Nat} {v : Int32} (hdg : decode cc pc = .ok (.ldc i, 2)) (hc : Cond.constant own i v ∈ fkB)
    (kk : fk_J w g en k (pc + 2) lv (.int v :: stk) st F) : fk_J w g en k pc lv (stk) st F := by
  intro o ho hq
  have kk := kk o ho hq
  obtain ⟨p, l, e, R, s, m, args, below, meth, c, rv, sf⟩ := k
  obtain ⟨hx, hb, hml, hown, hts, hK, hE, hr, hlk, hinj, hfr, hlo⟩ := hk
  intro H locs ls hl hP hS
  exact lv_ldc hx hb hown (hts _ hc) hdg (kk H locs ls hl hP hS)
theorem j_ldcw {w : fkW} {g : fkG} {k : fkK} {ρ : Type} {en : ρ → Option Value} {own : String} {cc : ByteArray} {nL fr lo pc : Nat} {ret : Option FieldType} {lv : List (Nat × Value)} {stk : List Value} {st : fkS} {F : Option (ρ × fkS)} (hk : fk_ok w g k own cc nL ret fr lo) {i : Nat} {v : Int32} (hdg : decode cc pc = .ok (.ldc_w i, 3)) (hc : Cond.constant own i v ∈ fkB)
    (kk : fk_J w g en k (pc + 3) lv (.int v :: stk) st F) : fk_J w g en k pc lv (stk) st F := by
  intro o ho hq
  have kk := kk o ho hq
  obtain ⟨p, l, e, R, s, m, args, below, meth, c, rv, sf⟩ := k
  obtain ⟨hx, hb, hml, hown, hts, hK, hE, hr, hlk, hinj, hfr, hlo⟩ := hk
  intro H locs ls hl hP hS
  exact lv_ldcw hx hb hown (hts _ hc) hdg (kk H locs ls hl hP hS)
theorem j_ldc2 {w : fkW} {g : fkG} {k : fkK} {ρ : Type} {en : ρ → Option Value} {own : String} {cc : ByteArray} {nL fr lo pc : Nat} {ret : Option FieldType} {lv : List (Nat × Value)} {stk : List Value} {st : fkS} {F : Option (ρ × fkS)} (hk : fk_ok w g k own cc nL ret fr lo) {i : Nat} {v : Int64} (hdg : decode cc pc = .ok (.ldc2_w i, 3)) (hc : Cond.constantLong own i v ∈ fkB)
    (kk : fk_J w g en k (pc + 3) lv (.long v :: stk) st F) : fk_J w g en k pc lv (stk) st F := by
  intro o ho hq
  have kk := kk o ho hq
  obtain ⟨p, l, e, R, s, m, args, below, meth, c, rv, sf⟩ := k
  obtain ⟨hx, hb, hml, hown, hts, hK, hE, hr, hlk, hinj, hfr, hlo⟩ := hk
  intro H locs ls hl hP hS
  exact lv_ldc2 hx hb hown (hts _ hc) hdg (kk H locs ls hl hP hS)
theorem j_ldcS {w : fkW} {g : fkG} {k : fkK} {ρ : Type} {en : ρ → Option Value} {own : String} {cc : ByteArray} {nL fr lo pc : Nat} {ret : Option FieldType} {lv : List (Nat × Value)} {stk : List Value} {st : fkS} {F : Option (ρ × fkS)} (hk : fk_ok w g k own cc nL ret fr lo) {i q : Nat} {tx : String} (hdg : decode cc pc = .ok (.ldc i, 2)) (hc : (own, i, tx, q) ∈ fk_strs)
    (kk : fk_J w g en k (pc + 2) lv (fk_q g q :: stk) st F) : fk_J w g en k pc lv (stk) st F := by
  intro o ho hq
  have kk := kk o ho hq
  obtain ⟨p, l, e, R, s, m, args, below, meth, c, rv, sf⟩ := k
  obtain ⟨hx, hb, hml, hown, hts, hK, hE, hr, hlk, hinj, hfr, hlo⟩ := hk
  intro H locs ls hl hP hS
  exact va_ldcS hx hb hown (hE.2.2.2.2.2.2.1 _ hc) hdg (kk H locs ls hl hP hS)
theorem j_iload_n {w : fkW} {g : fkG} {k : fkK} {ρ : Type} {en : ρ → Option Value} {own : String} {cc : ByteArray} {nL fr lo pc : Nat} {ret : Option FieldType} {lv : List (Nat × Value)} {stk : List Value} {st : fkS} {F : Option (ρ × fkS)} (hk : fk_ok w g k own cc nL ret fr lo) {i : Fin 4} {x : Int32} (j : Nat) (hj : lv[j]? = some ((i : Nat), .int x)) (hdg : decode cc pc = .ok (.iload_n i, 1)) 
    (kk : fk_J w g en k (pc + 1) lv (.int x :: stk) st F) : fk_J w g en k pc lv (stk) st F := by
  intro o ho hq
  have kk := kk o ho hq
  obtain ⟨p, l, e, R, s, m, args, below, meth, c, rv, sf⟩ := k
  obtain ⟨hx, hb, hml, hown, hts, hK, hE, hr, hlk, hinj, hfr, hlo⟩ := hk
  intro H locs ls hl hP hS
  exact lv_iload_n hx hb hdg rfl (lv_at hl j hj) (kk H locs ls hl hP hS)
theorem j_iload {w : fkW} {g : fkG} {k : fkK} {ρ : Type} {en : ρ → Option Value} {own : String} {cc : ByteArray} {nL fr lo pc : Nat} {ret : Option FieldType} {lv : List (Nat × Value)} {stk : List Value} {st : fkS} {F : Option (ρ × fkS)} (hk : fk_ok w g k own cc nL ret fr lo) {i : Nat} {x : Int32} (j : Nat) (hj : lv[j]? = some (i, .int x)) (hdg : decode cc pc = .ok (.iload i, 2)) 
    (kk : fk_J w g en k (pc + 2) lv (.int x :: stk) st F) : fk_J w g en k pc lv (stk) st F := by
  intro o ho hq
  have kk := kk o ho hq
  obtain ⟨p, l, e, R, s, m, args, below, meth, c, rv, sf⟩ := k
  obtain ⟨hx, hb, hml, hown, hts, hK, hE, hr, hlk, hinj, hfr, hlo⟩ := hk
  intro H locs ls hl hP hS
  exact lv_iload hx hb hdg (lv_at hl j hj) (kk H locs ls hl hP hS)
theorem j_lload_n {w : fkW} {g : fkG} {k : fkK} {ρ : Type} {en : ρ → Option Value} {own : String} {cc : ByteArray} {nL fr lo pc : Nat} {ret : Option FieldType} {lv : List (Nat × Value)} {stk : List Value} {st : fkS} {F : Option (ρ × fkS)} (hk : fk_ok w g k own cc nL ret fr lo) {i : Fin 4} {x : Int64} (j : Nat) (hj : lv[j]? = some ((i : Nat), .long x)) (hdg : decode cc pc = .ok (.lload_n i, 1)) 
    (kk : fk_J w g en k (pc + 1) lv (.long x :: stk) st F) : fk_J w g en k pc lv (stk) st F := by
  intro o ho hq
  have kk := kk o ho hq
  obtain ⟨p, l, e, R, s, m, args, below, meth, c, rv, sf⟩ := k
  obtain ⟨hx, hb, hml, hown, hts, hK, hE, hr, hlk, hinj, hfr, hlo⟩ := hk
  intro H locs ls hl hP hS
  exact lv_lload_n hx hb hdg rfl (lv_at hl j hj) (kk H locs ls hl hP hS)
theorem j_lload {w : fkW} {g : fkG} {k : fkK} {ρ : Type} {en : ρ → Option Value} {own : String} {cc : ByteArray} {nL fr lo pc : Nat} {ret : Option FieldType} {lv : List (Nat × Value)} {stk : List Value} {st : fkS} {F : Option (ρ × fkS)} (hk : fk_ok w g k own cc nL ret fr lo) {i : Nat} {x : Int64} (j : Nat) (hj : lv[j]? = some (i, .long x)) (hdg : decode cc pc = .ok (.lload i, 2)) 
    (kk : fk_J w g en k (pc + 2) lv (.long x :: stk) st F) : fk_J w g en k pc lv (stk) st F := by
  intro o ho hq
  have kk := kk o ho hq
  obtain ⟨p, l, e, R, s, m, args, below, meth, c, rv, sf⟩ := k
  obtain ⟨hx, hb, hml, hown, hts, hK, hE, hr, hlk, hinj, hfr, hlo⟩ := hk
  intro H locs ls hl hP hS
  exact lv_lload hx hb hdg (lv_at hl j hj) (kk H locs ls hl hP hS)
theorem j_aload_n {w : fkW} {g : fkG} {k : fkK} {ρ : Type} {en : ρ → Option Value} {own : String} {cc : ByteArray} {nL fr lo pc : Nat} {ret : Option FieldType} {lv : List (Nat × Value)} {stk : List Value} {st : fkS} {F : Option (ρ × fkS)} (hk : fk_ok w g k own cc nL ret fr lo) {i : Fin 4} {v : Value} (j : Nat) (hj : lv[j]? = some ((i : Nat), v)) (hv : ∃ a, v = .ref a) (hdg : decode cc pc = .ok (.aload_n i, 1)) 
    (kk : fk_J w g en k (pc + 1) lv (v :: stk) st F) : fk_J w g en k pc lv (stk) st F := by
  obtain ⟨a, rfl⟩ := hv
  intro o ho hq
  have kk := kk o ho hq
  obtain ⟨p, l, e, R, s, m, args, below, meth, c, rv, sf⟩ := k
  obtain ⟨hx, hb, hml, hown, hts, hK, hE, hr, hlk, hinj, hfr, hlo⟩ := hk
  intro H locs ls hl hP hS
  exact lv_aload_n hx hb hdg rfl (lv_at hl j hj) (kk H locs ls hl hP hS)
theorem j_aload {w : fkW} {g : fkG} {k : fkK} {ρ : Type} {en : ρ → Option Value} {own : String} {cc : ByteArray} {nL fr lo pc : Nat} {ret : Option FieldType} {lv : List (Nat × Value)} {stk : List Value} {st : fkS} {F : Option (ρ × fkS)} (hk : fk_ok w g k own cc nL ret fr lo) {i : Nat} {v : Value} (j : Nat) (hj : lv[j]? = some (i, v)) (hv : ∃ a, v = .ref a) (hdg : decode cc pc = .ok (.aload i, 2)) 
    (kk : fk_J w g en k (pc + 2) lv (v :: stk) st F) : fk_J w g en k pc lv (stk) st F := by
  obtain ⟨a, rfl⟩ := hv
  intro o ho hq
  have kk := kk o ho hq
  obtain ⟨p, l, e, R, s, m, args, below, meth, c, rv, sf⟩ := k
  obtain ⟨hx, hb, hml, hown, hts, hK, hE, hr, hlk, hinj, hfr, hlo⟩ := hk
  intro H locs ls hl hP hS
  exact lv_aload hx hb hdg (lv_at hl j hj) (kk H locs ls hl hP hS)
theorem j_istore_n {w : fkW} {g : fkG} {k : fkK} {ρ : Type} {en : ρ → Option Value} {own : String} {cc : ByteArray} {nL fr lo pc : Nat} {ret : Option FieldType} {lv : List (Nat × Value)} {stk : List Value} {st : fkS} {F : Option (ρ × fkS)} (hk : fk_ok w g k own cc nL ret fr lo) {ik : Fin 4} {i : Nat} {x : Int32} {lv' : List (Nat × Value)} (hi : (ik : Nat) = i) (hn : i < nL) (hs : (i, Value.int x) :: lv.filter (fun q => !(q.1 == i) && !(q.1 + 1 == i && q.2.category == 2)) = lv') (hdg : decode cc pc = .ok (.istore_n ik, 1))
    (kk : fk_J w g en k (pc + 1) lv' stk st F) : fk_J w g en k pc lv (.int x :: stk) st F := by
  intro o ho hq
  have kk := kk o ho hq
  obtain ⟨p, l, e, R, s, m, args, below, meth, c, rv, sf⟩ := k
  obtain ⟨hx, hb, hml, hown, hts, hK, hE, hr, hlk, hinj, hfr, hlo⟩ := hk
  intro H locs ls hl hP hS
  subst hml
  exact lv_istore_n hx hb hdg hi hl hn hs (fun ls' hl' => kk H locs ls' hl' hP hS)
theorem j_istore {w : fkW} {g : fkG} {k : fkK} {ρ : Type} {en : ρ → Option Value} {own : String} {cc : ByteArray} {nL fr lo pc : Nat} {ret : Option FieldType} {lv : List (Nat × Value)} {stk : List Value} {st : fkS} {F : Option (ρ × fkS)} (hk : fk_ok w g k own cc nL ret fr lo) {i : Nat} {x : Int32} {lv' : List (Nat × Value)} (hn : i < nL) (hs : (i, Value.int x) :: lv.filter (fun q => !(q.1 == i) && !(q.1 + 1 == i && q.2.category == 2)) = lv') (hdg : decode cc pc = .ok (.istore i, 2))
    (kk : fk_J w g en k (pc + 2) lv' stk st F) : fk_J w g en k pc lv (.int x :: stk) st F := by
  intro o ho hq
  have kk := kk o ho hq
  obtain ⟨p, l, e, R, s, m, args, below, meth, c, rv, sf⟩ := k
  obtain ⟨hx, hb, hml, hown, hts, hK, hE, hr, hlk, hinj, hfr, hlo⟩ := hk
  intro H locs ls hl hP hS
  subst hml
  exact lv_istore hx hb hdg hl hn hs (fun ls' hl' => kk H locs ls' hl' hP hS)
theorem j_astore_n {w : fkW} {g : fkG} {k : fkK} {ρ : Type} {en : ρ → Option Value} {own : String} {cc : ByteArray} {nL fr lo pc : Nat} {ret : Option FieldType} {lv : List (Nat × Value)} {stk : List Value} {st : fkS} {F : Option (ρ × fkS)} (hk : fk_ok w g k own cc nL ret fr lo) {ik : Fin 4} {i : Nat} {v : Value} {lv' : List (Nat × Value)} (hv : ∃ a, v = .ref a) (hi : (ik : Nat) = i) (hn : i < nL) (hs : (i, v) :: lv.filter (fun q => !(q.1 == i) && !(q.1 + 1 == i && q.2.category == 2)) = lv') (hdg : decode cc pc = .ok (.astore_n ik, 1))
    (kk : fk_J w g en k (pc + 1) lv' stk st F) : fk_J w g en k pc lv (v :: stk) st F := by
  obtain ⟨a, rfl⟩ := hv
  intro o ho hq
  have kk := kk o ho hq
  obtain ⟨p, l, e, R, s, m, args, below, meth, c, rv, sf⟩ := k
  obtain ⟨hx, hb, hml, hown, hts, hK, hE, hr, hlk, hinj, hfr, hlo⟩ := hk
  intro H locs ls hl hP hS
  subst hml
  exact lv_astore_n hx hb hdg hi hl hn hs (fun ls' hl' => kk H locs ls' hl' hP hS)
theorem j_astore {w : fkW} {g : fkG} {k : fkK} {ρ : Type} {en : ρ → Option Value} {own : String} {cc : ByteArray} {nL fr lo pc : Nat} {ret : Option FieldType} {lv : List (Nat × Value)} {stk : List Value} {st : fkS} {F : Option (ρ × fkS)} (hk : fk_ok w g k own cc nL ret fr lo) {i : Nat} {v : Value} {lv' : List (Nat × Value)} (hv : ∃ a, v = .ref a) (hn : i < nL) (hs : (i, v) :: lv.filter (fun q => !(q.1 == i) && !(q.1 + 1 == i && q.2.category == 2)) = lv') (hdg : decode cc pc = .ok (.astore i, 2))
    (kk : fk_J w g en k (pc + 2) lv' stk st F) : fk_J w g en k pc lv (v :: stk) st F := by
  obtain ⟨a, rfl⟩ := hv
  intro o ho hq
  have kk := kk o ho hq
  obtain ⟨p, l, e, R, s, m, args, below, meth, c, rv, sf⟩ := k
  obtain ⟨hx, hb, hml, hown, hts, hK, hE, hr, hlk, hinj, hfr, hlo⟩ := hk
  intro H locs ls hl hP hS
  subst hml
  exact lv_astore hx hb hdg hl hn hs (fun ls' hl' => kk H locs ls' hl' hP hS)
theorem j_iinc {w : fkW} {g : fkG} {k : fkK} {ρ : Type} {en : ρ → Option Value} {own : String} {cc : ByteArray} {nL fr lo pc : Nat} {ret : Option FieldType} {lv : List (Nat × Value)} {stk : List Value} {st : fkS} {F : Option (ρ × fkS)} (hk : fk_ok w g k own cc nL ret fr lo) {i : Nat} {n : Int} {x dd : Int32} {lv' : List (Nat × Value)} (j : Nat) (hj : lv[j]? = some (i, .int x)) (hv : Int32.ofInt n = dd) (hn : i < nL) (hs : (i, Value.int (x + dd)) :: lv.filter (fun q => !(q.1 == i) && !(q.1 + 1 == i && q.2.category == 2)) = lv') (hdg : decode cc pc = .ok (.iinc i n, 3))
    (kk : fk_J w g en k (pc + 3) lv' stk st F) : fk_J w g en k pc lv stk st F := by
  intro o ho hq
  have kk := kk o ho hq
  obtain ⟨p, l, e, R, s, m, args, below, meth, c, rv, sf⟩ := k
  obtain ⟨hx, hb, hml, hown, hts, hK, hE, hr, hlk, hinj, hfr, hlo⟩ := hk
  intro H locs ls hl hP hS
  subst hml
  exact lv_iinc hx hb hdg hl hj (by rw [hv]) hn hs (fun ls' hl' => kk H locs ls' hl' hP hS)
theorem j_iadd {w : fkW} {g : fkG} {k : fkK} {ρ : Type} {en : ρ → Option Value} {own : String} {cc : ByteArray} {nL fr lo pc : Nat} {ret : Option FieldType} {lv : List (Nat × Value)} {stk : List Value} {st : fkS} {F : Option (ρ × fkS)} (hk : fk_ok w g k own cc nL ret fr lo) {x y : Int32} (hdg : decode cc pc = .ok (.iadd, 1)) 
    (kk : fk_J w g en k (pc + 1) lv (.int (x + y) :: stk) st F) : fk_J w g en k pc lv (.int y :: .int x :: stk) st F := by
  intro o ho hq
  have kk := kk o ho hq
  obtain ⟨p, l, e, R, s, m, args, below, meth, c, rv, sf⟩ := k
  obtain ⟨hx, hb, hml, hown, hts, hK, hE, hr, hlk, hinj, hfr, hlo⟩ := hk
  intro H locs ls hl hP hS
  exact lv_iadd hx hb hdg (kk H locs ls hl hP hS)
theorem j_isub {w : fkW} {g : fkG} {k : fkK} {ρ : Type} {en : ρ → Option Value} {own : String} {cc : ByteArray} {nL fr lo pc : Nat} {ret : Option FieldType} {lv : List (Nat × Value)} {stk : List Value} {st : fkS} {F : Option (ρ × fkS)} (hk : fk_ok w g k own cc nL ret fr lo) {x y : Int32} (hdg : decode cc pc = .ok (.isub, 1)) 
    (kk : fk_J w g en k (pc + 1) lv (.int (x - y) :: stk) st F) : fk_J w g en k pc lv (.int y :: .int x :: stk) st F := by
  intro o ho hq
  have kk := kk o ho hq
  obtain ⟨p, l, e, R, s, m, args, below, meth, c, rv, sf⟩ := k
  obtain ⟨hx, hb, hml, hown, hts, hK, hE, hr, hlk, hinj, hfr, hlo⟩ := hk
  intro H locs ls hl hP hS
  exact lv_isub hx hb hdg (kk H locs ls hl hP hS)
theorem j_imul {w : fkW} {g : fkG} {k : fkK} {ρ : Type} {en : ρ → Option Value} {own : String} {cc : ByteArray} {nL fr lo pc : Nat} {ret : Option FieldType} {lv : List (Nat × Value)} {stk : List Value} {st : fkS} {F : Option (ρ × fkS)} (hk : fk_ok w g k own cc nL ret fr lo) {x y : Int32} (hdg : decode cc pc = .ok (.imul, 1)) 
    (kk : fk_J w g en k (pc + 1) lv (.int (x * y) :: stk) st F) : fk_J w g en k pc lv (.int y :: .int x :: stk) st F := by
  intro o ho hq
  have kk := kk o ho hq
  obtain ⟨p, l, e, R, s, m, args, below, meth, c, rv, sf⟩ := k
  obtain ⟨hx, hb, hml, hown, hts, hK, hE, hr, hlk, hinj, hfr, hlo⟩ := hk
  intro H locs ls hl hP hS
  exact lv_imul hx hb hdg (kk H locs ls hl hP hS)
theorem j_iand {w : fkW} {g : fkG} {k : fkK} {ρ : Type} {en : ρ → Option Value} {own : String} {cc : ByteArray} {nL fr lo pc : Nat} {ret : Option FieldType} {lv : List (Nat × Value)} {stk : List Value} {st : fkS} {F : Option (ρ × fkS)} (hk : fk_ok w g k own cc nL ret fr lo) {x y : Int32} (hdg : decode cc pc = .ok (.iand, 1)) 
    (kk : fk_J w g en k (pc + 1) lv (.int (x &&& y) :: stk) st F) : fk_J w g en k pc lv (.int y :: .int x :: stk) st F := by
  intro o ho hq
  have kk := kk o ho hq
  obtain ⟨p, l, e, R, s, m, args, below, meth, c, rv, sf⟩ := k
  obtain ⟨hx, hb, hml, hown, hts, hK, hE, hr, hlk, hinj, hfr, hlo⟩ := hk
  intro H locs ls hl hP hS
  exact lv_iand hx hb hdg (kk H locs ls hl hP hS)
theorem j_ior {w : fkW} {g : fkG} {k : fkK} {ρ : Type} {en : ρ → Option Value} {own : String} {cc : ByteArray} {nL fr lo pc : Nat} {ret : Option FieldType} {lv : List (Nat × Value)} {stk : List Value} {st : fkS} {F : Option (ρ × fkS)} (hk : fk_ok w g k own cc nL ret fr lo) {x y : Int32} (hdg : decode cc pc = .ok (.ior, 1)) 
    (kk : fk_J w g en k (pc + 1) lv (.int (x ||| y) :: stk) st F) : fk_J w g en k pc lv (.int y :: .int x :: stk) st F := by
  intro o ho hq
  have kk := kk o ho hq
  obtain ⟨p, l, e, R, s, m, args, below, meth, c, rv, sf⟩ := k
  obtain ⟨hx, hb, hml, hown, hts, hK, hE, hr, hlk, hinj, hfr, hlo⟩ := hk
  intro H locs ls hl hP hS
  exact lv_ior hx hb hdg (kk H locs ls hl hP hS)
theorem j_ixor {w : fkW} {g : fkG} {k : fkK} {ρ : Type} {en : ρ → Option Value} {own : String} {cc : ByteArray} {nL fr lo pc : Nat} {ret : Option FieldType} {lv : List (Nat × Value)} {stk : List Value} {st : fkS} {F : Option (ρ × fkS)} (hk : fk_ok w g k own cc nL ret fr lo) {x y : Int32} (hdg : decode cc pc = .ok (.ixor, 1)) 
    (kk : fk_J w g en k (pc + 1) lv (.int (x ^^^ y) :: stk) st F) : fk_J w g en k pc lv (.int y :: .int x :: stk) st F := by
  intro o ho hq
  have kk := kk o ho hq
  obtain ⟨p, l, e, R, s, m, args, below, meth, c, rv, sf⟩ := k
  obtain ⟨hx, hb, hml, hown, hts, hK, hE, hr, hlk, hinj, hfr, hlo⟩ := hk
  intro H locs ls hl hP hS
  exact lv_ixor hx hb hdg (kk H locs ls hl hP hS)
theorem j_ishl {w : fkW} {g : fkG} {k : fkK} {ρ : Type} {en : ρ → Option Value} {own : String} {cc : ByteArray} {nL fr lo pc : Nat} {ret : Option FieldType} {lv : List (Nat × Value)} {stk : List Value} {st : fkS} {F : Option (ρ × fkS)} (hk : fk_ok w g k own cc nL ret fr lo) {x y : Int32} (hdg : decode cc pc = .ok (.ishl, 1)) 
    (kk : fk_J w g en k (pc + 1) lv (.int (x <<< (y &&& 31)) :: stk) st F) : fk_J w g en k pc lv (.int y :: .int x :: stk) st F := by
  intro o ho hq
  have kk := kk o ho hq
  obtain ⟨p, l, e, R, s, m, args, below, meth, c, rv, sf⟩ := k
  obtain ⟨hx, hb, hml, hown, hts, hK, hE, hr, hlk, hinj, hfr, hlo⟩ := hk
  intro H locs ls hl hP hS
  exact lv_ishl hx hb hdg (kk H locs ls hl hP hS)
theorem j_ishr {w : fkW} {g : fkG} {k : fkK} {ρ : Type} {en : ρ → Option Value} {own : String} {cc : ByteArray} {nL fr lo pc : Nat} {ret : Option FieldType} {lv : List (Nat × Value)} {stk : List Value} {st : fkS} {F : Option (ρ × fkS)} (hk : fk_ok w g k own cc nL ret fr lo) {x y : Int32} (hdg : decode cc pc = .ok (.ishr, 1)) 
    (kk : fk_J w g en k (pc + 1) lv (.int (x >>> (y &&& 31)) :: stk) st F) : fk_J w g en k pc lv (.int y :: .int x :: stk) st F := by
  intro o ho hq
  have kk := kk o ho hq
  obtain ⟨p, l, e, R, s, m, args, below, meth, c, rv, sf⟩ := k
  obtain ⟨hx, hb, hml, hown, hts, hK, hE, hr, hlk, hinj, hfr, hlo⟩ := hk
  intro H locs ls hl hP hS
  exact lv_ishr hx hb hdg (kk H locs ls hl hP hS)
theorem j_ladd {w : fkW} {g : fkG} {k : fkK} {ρ : Type} {en : ρ → Option Value} {own : String} {cc : ByteArray} {nL fr lo pc : Nat} {ret : Option FieldType} {lv : List (Nat × Value)} {stk : List Value} {st : fkS} {F : Option (ρ × fkS)} (hk : fk_ok w g k own cc nL ret fr lo) {x y : Int64} (hdg : decode cc pc = .ok (.ladd, 1)) 
    (kk : fk_J w g en k (pc + 1) lv (.long (x + y) :: stk) st F) : fk_J w g en k pc lv (.long y :: .long x :: stk) st F := by
  intro o ho hq
  have kk := kk o ho hq
  obtain ⟨p, l, e, R, s, m, args, below, meth, c, rv, sf⟩ := k
  obtain ⟨hx, hb, hml, hown, hts, hK, hE, hr, hlk, hinj, hfr, hlo⟩ := hk
  intro H locs ls hl hP hS
  exact lv_ladd hx hb hdg (kk H locs ls hl hP hS)
theorem j_lsub {w : fkW} {g : fkG} {k : fkK} {ρ : Type} {en : ρ → Option Value} {own : String} {cc : ByteArray} {nL fr lo pc : Nat} {ret : Option FieldType} {lv : List (Nat × Value)} {stk : List Value} {st : fkS} {F : Option (ρ × fkS)} (hk : fk_ok w g k own cc nL ret fr lo) {x y : Int64} (hdg : decode cc pc = .ok (.lsub, 1)) 
    (kk : fk_J w g en k (pc + 1) lv (.long (x - y) :: stk) st F) : fk_J w g en k pc lv (.long y :: .long x :: stk) st F := by
  intro o ho hq
  have kk := kk o ho hq
  obtain ⟨p, l, e, R, s, m, args, below, meth, c, rv, sf⟩ := k
  obtain ⟨hx, hb, hml, hown, hts, hK, hE, hr, hlk, hinj, hfr, hlo⟩ := hk
  intro H locs ls hl hP hS
  exact lv_lsub hx hb hdg (kk H locs ls hl hP hS)
theorem j_lmul {w : fkW} {g : fkG} {k : fkK} {ρ : Type} {en : ρ → Option Value} {own : String} {cc : ByteArray} {nL fr lo pc : Nat} {ret : Option FieldType} {lv : List (Nat × Value)} {stk : List Value} {st : fkS} {F : Option (ρ × fkS)} (hk : fk_ok w g k own cc nL ret fr lo) {x y : Int64} (hdg : decode cc pc = .ok (.lmul, 1)) 
    (kk : fk_J w g en k (pc + 1) lv (.long (x * y) :: stk) st F) : fk_J w g en k pc lv (.long y :: .long x :: stk) st F := by
  intro o ho hq
  have kk := kk o ho hq
  obtain ⟨p, l, e, R, s, m, args, below, meth, c, rv, sf⟩ := k
  obtain ⟨hx, hb, hml, hown, hts, hK, hE, hr, hlk, hinj, hfr, hlo⟩ := hk
  intro H locs ls hl hP hS
  exact lv_lmul hx hb hdg (kk H locs ls hl hP hS)
theorem j_land {w : fkW} {g : fkG} {k : fkK} {ρ : Type} {en : ρ → Option Value} {own : String} {cc : ByteArray} {nL fr lo pc : Nat} {ret : Option FieldType} {lv : List (Nat × Value)} {stk : List Value} {st : fkS} {F : Option (ρ × fkS)} (hk : fk_ok w g k own cc nL ret fr lo) {x y : Int64} (hdg : decode cc pc = .ok (.land, 1)) 
    (kk : fk_J w g en k (pc + 1) lv (.long (x &&& y) :: stk) st F) : fk_J w g en k pc lv (.long y :: .long x :: stk) st F := by
  intro o ho hq
  have kk := kk o ho hq
  obtain ⟨p, l, e, R, s, m, args, below, meth, c, rv, sf⟩ := k
  obtain ⟨hx, hb, hml, hown, hts, hK, hE, hr, hlk, hinj, hfr, hlo⟩ := hk
  intro H locs ls hl hP hS
  exact lv_land hx hb hdg (kk H locs ls hl hP hS)
theorem j_lor {w : fkW} {g : fkG} {k : fkK} {ρ : Type} {en : ρ → Option Value} {own : String} {cc : ByteArray} {nL fr lo pc : Nat} {ret : Option FieldType} {lv : List (Nat × Value)} {stk : List Value} {st : fkS} {F : Option (ρ × fkS)} (hk : fk_ok w g k own cc nL ret fr lo) {x y : Int64} (hdg : decode cc pc = .ok (.lor, 1)) 
    (kk : fk_J w g en k (pc + 1) lv (.long (x ||| y) :: stk) st F) : fk_J w g en k pc lv (.long y :: .long x :: stk) st F := by
  intro o ho hq
  have kk := kk o ho hq
  obtain ⟨p, l, e, R, s, m, args, below, meth, c, rv, sf⟩ := k
  obtain ⟨hx, hb, hml, hown, hts, hK, hE, hr, hlk, hinj, hfr, hlo⟩ := hk
  intro H locs ls hl hP hS
  exact lv_lor hx hb hdg (kk H locs ls hl hP hS)
theorem j_idiv {w : fkW} {g : fkG} {k : fkK} {ρ : Type} {en : ρ → Option Value} {own : String} {cc : ByteArray} {nL fr lo pc : Nat} {ret : Option FieldType} {lv : List (Nat × Value)} {stk : List Value} {st : fkS} {F : Option (ρ × fkS)} (hk : fk_ok w g k own cc nL ret fr lo) {x y : Int32} (hne : fk_nz y = true) (hdg : decode cc pc = .ok (.idiv, 1)) 
    (kk : fk_J w g en k (pc + 1) lv (.int (x / y) :: stk) st F) : fk_J w g en k pc lv (.int y :: .int x :: stk) st F := by
  intro o ho hq
  have kk := kk o ho hq
  obtain ⟨p, l, e, R, s, m, args, below, meth, c, rv, sf⟩ := k
  obtain ⟨hx, hb, hml, hown, hts, hK, hE, hr, hlk, hinj, hfr, hlo⟩ := hk
  intro H locs ls hl hP hS
  exact lv_idiv hx hb hdg (fk_nz_ne hne) (kk H locs ls hl hP hS)
theorem j_irem {w : fkW} {g : fkG} {k : fkK} {ρ : Type} {en : ρ → Option Value} {own : String} {cc : ByteArray} {nL fr lo pc : Nat} {ret : Option FieldType} {lv : List (Nat × Value)} {stk : List Value} {st : fkS} {F : Option (ρ × fkS)} (hk : fk_ok w g k own cc nL ret fr lo) {x y : Int32} (hne : fk_nz y = true) (hdg : decode cc pc = .ok (.irem, 1)) 
    (kk : fk_J w g en k (pc + 1) lv (.int (fk_rem x y) :: stk) st F) : fk_J w g en k pc lv (.int y :: .int x :: stk) st F := by
  intro o ho hq
  have kk := kk o ho hq
  obtain ⟨p, l, e, R, s, m, args, below, meth, c, rv, sf⟩ := k
  obtain ⟨hx, hb, hml, hown, hts, hK, hE, hr, hlk, hinj, hfr, hlo⟩ := hk
  intro H locs ls hl hP hS
  exact lv_irem hx hb hdg (fk_nz_ne hne) (kk H locs ls hl hP hS)
theorem j_ldiv {w : fkW} {g : fkG} {k : fkK} {ρ : Type} {en : ρ → Option Value} {own : String} {cc : ByteArray} {nL fr lo pc : Nat} {ret : Option FieldType} {lv : List (Nat × Value)} {stk : List Value} {st : fkS} {F : Option (ρ × fkS)} (hk : fk_ok w g k own cc nL ret fr lo) {x y : Int64} (hne : fk_nzL y = true) (hdg : decode cc pc = .ok (.ldiv, 1)) 
    (kk : fk_J w g en k (pc + 1) lv (.long (x / y) :: stk) st F) : fk_J w g en k pc lv (.long y :: .long x :: stk) st F := by
  intro o ho hq
  have kk := kk o ho hq
  obtain ⟨p, l, e, R, s, m, args, below, meth, c, rv, sf⟩ := k
  obtain ⟨hx, hb, hml, hown, hts, hK, hE, hr, hlk, hinj, hfr, hlo⟩ := hk
  intro H locs ls hl hP hS
  exact lv_ldiv hx hb hdg (fk_nzL_ne hne) (kk H locs ls hl hP hS)
theorem j_ineg {w : fkW} {g : fkG} {k : fkK} {ρ : Type} {en : ρ → Option Value} {own : String} {cc : ByteArray} {nL fr lo pc : Nat} {ret : Option FieldType} {lv : List (Nat × Value)} {stk : List Value} {st : fkS} {F : Option (ρ × fkS)} (hk : fk_ok w g k own cc nL ret fr lo) {x : Int32} (hdg : decode cc pc = .ok (.ineg, 1)) 
    (kk : fk_J w g en k (pc + 1) lv (.int (-x) :: stk) st F) : fk_J w g en k pc lv (.int x :: stk) st F := by
  intro o ho hq
  have kk := kk o ho hq
  obtain ⟨p, l, e, R, s, m, args, below, meth, c, rv, sf⟩ := k
  obtain ⟨hx, hb, hml, hown, hts, hK, hE, hr, hlk, hinj, hfr, hlo⟩ := hk
  intro H locs ls hl hP hS
  exact lv_ineg hx hb hdg (kk H locs ls hl hP hS)
theorem j_iushr {w : fkW} {g : fkG} {k : fkK} {ρ : Type} {en : ρ → Option Value} {own : String} {cc : ByteArray} {nL fr lo pc : Nat} {ret : Option FieldType} {lv : List (Nat × Value)} {stk : List Value} {st : fkS} {F : Option (ρ × fkS)} (hk : fk_ok w g k own cc nL ret fr lo) {x y : Int32} (hdg : decode cc pc = .ok (.iushr, 1)) 
    (kk : fk_J w g en k (pc + 1) lv (.int (fk_ushr x y) :: stk) st F) : fk_J w g en k pc lv (.int y :: .int x :: stk) st F := by
  intro o ho hq
  have kk := kk o ho hq
  obtain ⟨p, l, e, R, s, m, args, below, meth, c, rv, sf⟩ := k
  obtain ⟨hx, hb, hml, hown, hts, hK, hE, hr, hlk, hinj, hfr, hlo⟩ := hk
  intro H locs ls hl hP hS
  exact lv_iushr hx hb hdg rfl (kk H locs ls hl hP hS)
theorem j_i2l {w : fkW} {g : fkG} {k : fkK} {ρ : Type} {en : ρ → Option Value} {own : String} {cc : ByteArray} {nL fr lo pc : Nat} {ret : Option FieldType} {lv : List (Nat × Value)} {stk : List Value} {st : fkS} {F : Option (ρ × fkS)} (hk : fk_ok w g k own cc nL ret fr lo) {x : Int32} (hdg : decode cc pc = .ok (.i2l, 1)) 
    (kk : fk_J w g en k (pc + 1) lv (.long x.toInt64 :: stk) st F) : fk_J w g en k pc lv (.int x :: stk) st F := by
  intro o ho hq
  have kk := kk o ho hq
  obtain ⟨p, l, e, R, s, m, args, below, meth, c, rv, sf⟩ := k
  obtain ⟨hx, hb, hml, hown, hts, hK, hE, hr, hlk, hinj, hfr, hlo⟩ := hk
  intro H locs ls hl hP hS
  exact lv_i2l hx hb hdg rfl (kk H locs ls hl hP hS)
theorem j_l2i {w : fkW} {g : fkG} {k : fkK} {ρ : Type} {en : ρ → Option Value} {own : String} {cc : ByteArray} {nL fr lo pc : Nat} {ret : Option FieldType} {lv : List (Nat × Value)} {stk : List Value} {st : fkS} {F : Option (ρ × fkS)} (hk : fk_ok w g k own cc nL ret fr lo) {x : Int64} (hdg : decode cc pc = .ok (.l2i, 1)) 
    (kk : fk_J w g en k (pc + 1) lv (.int x.toInt32 :: stk) st F) : fk_J w g en k pc lv (.long x :: stk) st F := by
  intro o ho hq
  have kk := kk o ho hq
  obtain ⟨p, l, e, R, s, m, args, below, meth, c, rv, sf⟩ := k
  obtain ⟨hx, hb, hml, hown, hts, hK, hE, hr, hlk, hinj, hfr, hlo⟩ := hk
  intro H locs ls hl hP hS
  exact lv_l2i hx hb hdg rfl (kk H locs ls hl hP hS)
theorem j_i2b {w : fkW} {g : fkG} {k : fkK} {ρ : Type} {en : ρ → Option Value} {own : String} {cc : ByteArray} {nL fr lo pc : Nat} {ret : Option FieldType} {lv : List (Nat × Value)} {stk : List Value} {st : fkS} {F : Option (ρ × fkS)} (hk : fk_ok w g k own cc nL ret fr lo) {x : Int32} (hdg : decode cc pc = .ok (.i2b, 1)) 
    (kk : fk_J w g en k (pc + 1) lv (.int x.toInt8.toInt32 :: stk) st F) : fk_J w g en k pc lv (.int x :: stk) st F := by
  intro o ho hq
  have kk := kk o ho hq
  obtain ⟨p, l, e, R, s, m, args, below, meth, c, rv, sf⟩ := k
  obtain ⟨hx, hb, hml, hown, hts, hK, hE, hr, hlk, hinj, hfr, hlo⟩ := hk
  intro H locs ls hl hP hS
  exact lv_i2b hx hb hdg rfl (kk H locs ls hl hP hS)
theorem j_i2s {w : fkW} {g : fkG} {k : fkK} {ρ : Type} {en : ρ → Option Value} {own : String} {cc : ByteArray} {nL fr lo pc : Nat} {ret : Option FieldType} {lv : List (Nat × Value)} {stk : List Value} {st : fkS} {F : Option (ρ × fkS)} (hk : fk_ok w g k own cc nL ret fr lo) {x : Int32} (hdg : decode cc pc = .ok (.i2s, 1)) 
    (kk : fk_J w g en k (pc + 1) lv (.int x.toInt16.toInt32 :: stk) st F) : fk_J w g en k pc lv (.int x :: stk) st F := by
  intro o ho hq
  have kk := kk o ho hq
  obtain ⟨p, l, e, R, s, m, args, below, meth, c, rv, sf⟩ := k
  obtain ⟨hx, hb, hml, hown, hts, hK, hE, hr, hlk, hinj, hfr, hlo⟩ := hk
  intro H locs ls hl hP hS
  exact lv_i2s hx hb hdg rfl (kk H locs ls hl hP hS)
theorem j_lshl {w : fkW} {g : fkG} {k : fkK} {ρ : Type} {en : ρ → Option Value} {own : String} {cc : ByteArray} {nL fr lo pc : Nat} {ret : Option FieldType} {lv : List (Nat × Value)} {stk : List Value} {st : fkS} {F : Option (ρ × fkS)} (hk : fk_ok w g k own cc nL ret fr lo) {x : Int64} {y : Int32} (hdg : decode cc pc = .ok (.lshl, 1)) 
    (kk : fk_J w g en k (pc + 1) lv (.long (x <<< (y.toInt64 &&& 63)) :: stk) st F) : fk_J w g en k pc lv (.int y :: .long x :: stk) st F := by
  intro o ho hq
  have kk := kk o ho hq
  obtain ⟨p, l, e, R, s, m, args, below, meth, c, rv, sf⟩ := k
  obtain ⟨hx, hb, hml, hown, hts, hK, hE, hr, hlk, hinj, hfr, hlo⟩ := hk
  intro H locs ls hl hP hS
  exact lv_lshl hx hb hdg rfl (kk H locs ls hl hP hS)
theorem j_lcmp {w : fkW} {g : fkG} {k : fkK} {ρ : Type} {en : ρ → Option Value} {own : String} {cc : ByteArray} {nL fr lo pc : Nat} {ret : Option FieldType} {lv : List (Nat × Value)} {stk : List Value} {st : fkS} {F : Option (ρ × fkS)} (hk : fk_ok w g k own cc nL ret fr lo) {x y : Int64} (hdg : decode cc pc = .ok (.lcmp, 1)) 
    (kk : fk_J w g en k (pc + 1) lv (.int (lg_cmp x y) :: stk) st F) : fk_J w g en k pc lv (.long y :: .long x :: stk) st F := by
  intro o ho hq
  have kk := kk o ho hq
  obtain ⟨p, l, e, R, s, m, args, below, meth, c, rv, sf⟩ := k
  obtain ⟨hx, hb, hml, hown, hts, hK, hE, hr, hlk, hinj, hfr, hlo⟩ := hk
  intro H locs ls hl hP hS
  exact W.lcmp hx hb hdg (kk H locs ls hl hP hS)
theorem j_dup {w : fkW} {g : fkG} {k : fkK} {ρ : Type} {en : ρ → Option Value} {own : String} {cc : ByteArray} {nL fr lo pc : Nat} {ret : Option FieldType} {lv : List (Nat × Value)} {stk : List Value} {st : fkS} {F : Option (ρ × fkS)} (hk : fk_ok w g k own cc nL ret fr lo) {v : Value} (hv : v.category = 1) (hdg : decode cc pc = .ok (.dup, 1)) 
    (kk : fk_J w g en k (pc + 1) lv (v :: v :: stk) st F) : fk_J w g en k pc lv (v :: stk) st F := by
  intro o ho hq
  have kk := kk o ho hq
  obtain ⟨p, l, e, R, s, m, args, below, meth, c, rv, sf⟩ := k
  obtain ⟨hx, hb, hml, hown, hts, hK, hE, hr, hlk, hinj, hfr, hlo⟩ := hk
  intro H locs ls hl hP hS
  exact lv_dup hx hb hdg hv (kk H locs ls hl hP hS)
theorem j_pop {w : fkW} {g : fkG} {k : fkK} {ρ : Type} {en : ρ → Option Value} {own : String} {cc : ByteArray} {nL fr lo pc : Nat} {ret : Option FieldType} {lv : List (Nat × Value)} {stk : List Value} {st : fkS} {F : Option (ρ × fkS)} (hk : fk_ok w g k own cc nL ret fr lo) {v : Value} (hv : v.category = 1) (hdg : decode cc pc = .ok (.pop, 1)) 
    (kk : fk_J w g en k (pc + 1) lv (stk) st F) : fk_J w g en k pc lv (v :: stk) st F := by
  intro o ho hq
  have kk := kk o ho hq
  obtain ⟨p, l, e, R, s, m, args, below, meth, c, rv, sf⟩ := k
  obtain ⟨hx, hb, hml, hown, hts, hK, hE, hr, hlk, hinj, hfr, hlo⟩ := hk
  intro H locs ls hl hP hS
  exact lv_pop hx hb hdg hv (kk H locs ls hl hP hS)
theorem j_dup_x1 {w : fkW} {g : fkG} {k : fkK} {ρ : Type} {en : ρ → Option Value} {own : String} {cc : ByteArray} {nL fr lo pc : Nat} {ret : Option FieldType} {lv : List (Nat × Value)} {stk : List Value} {st : fkS} {F : Option (ρ × fkS)} (hk : fk_ok w g k own cc nL ret fr lo) {v u : Value} (hv : v.category = 1) (hu : u.category = 1) (hdg : decode cc pc = .ok (.dup_x1, 1)) 
    (kk : fk_J w g en k (pc + 1) lv (v :: u :: v :: stk) st F) : fk_J w g en k pc lv (v :: u :: stk) st F := by
  intro o ho hq
  have kk := kk o ho hq
  obtain ⟨p, l, e, R, s, m, args, below, meth, c, rv, sf⟩ := k
  obtain ⟨hx, hb, hml, hown, hts, hK, hE, hr, hlk, hinj, hfr, hlo⟩ := hk
  intro H locs ls hl hP hS
  exact lv_dup_x1 hx hb hdg hv hu (kk H locs ls hl hP hS)
theorem j_dup2 {w : fkW} {g : fkG} {k : fkK} {ρ : Type} {en : ρ → Option Value} {own : String} {cc : ByteArray} {nL fr lo pc : Nat} {ret : Option FieldType} {lv : List (Nat × Value)} {stk : List Value} {st : fkS} {F : Option (ρ × fkS)} (hk : fk_ok w g k own cc nL ret fr lo) {v u : Value} (hv : v.category = 1) (hu : u.category = 1) (hdg : decode cc pc = .ok (.dup2, 1)) 
    (kk : fk_J w g en k (pc + 1) lv (v :: u :: v :: u :: stk) st F) : fk_J w g en k pc lv (v :: u :: stk) st F := by
  intro o ho hq
  have kk := kk o ho hq
  obtain ⟨p, l, e, R, s, m, args, below, meth, c, rv, sf⟩ := k
  obtain ⟨hx, hb, hml, hown, hts, hK, hE, hr, hlk, hinj, hfr, hlo⟩ := hk
  intro H locs ls hl hP hS
  exact lv_dup2_11 hx hb hdg hv hu (kk H locs ls hl hP hS)
theorem j_goto {w : fkW} {g : fkG} {k : fkK} {ρ : Type} {en : ρ → Option Value} {own : String} {cc : ByteArray} {nL fr lo pc : Nat} {ret : Option FieldType} {lv : List (Nat × Value)} {stk : List Value} {st : fkS} {F : Option (ρ × fkS)} (hk : fk_ok w g k own cc nL ret fr lo) {off : Int} {tgt : Nat} (ht : (pc : Int) + off = (tgt : Int)) (hdg : decode cc pc = .ok (.goto off, 3))
    (kk : fk_J w g en k tgt lv stk st F) : fk_J w g en k pc lv stk st F := by
  intro o ho hq
  have kk := kk o ho hq
  obtain ⟨p, l, e, R, s, m, args, below, meth, c, rv, sf⟩ := k
  obtain ⟨hx, hb, hml, hown, hts, hK, hE, hr, hlk, hinj, hfr, hlo⟩ := hk
  intro H locs ls hl hP hS
  exact lv_goto hx hb hdg ht (kk H locs ls hl hP hS)
theorem j_if_eq {w : fkW} {g : fkG} {k : fkK} {ρ : Type} {en : ρ → Option Value} {own : String} {cc : ByteArray} {nL fr lo pc : Nat} {ret : Option FieldType} {lv : List (Nat × Value)} {stk : List Value} {st : fkS} (hk : fk_ok w g k own cc nL ret fr lo) {x : Int32} {off : Int} {tgt : Nat} {inst : Decidable (x = 0)} {F1 F2 : Option (ρ × fkS)} (ht : (pc : Int) + off = (tgt : Int)) (hdg : decode cc pc = .ok (.ifCond .eq off, 3))
    (kt : x = 0 → fk_J w g en k tgt lv stk st F1) (kf : ¬ (x = 0) → fk_J w g en k (pc + 3) lv stk st F2) : fk_J w g en k pc lv (.int x :: stk) st (@ite (Option (ρ × fkS)) (x = 0) inst F1 F2) := by
  intro o ho hq
  have kt : x = 0 → _ := fun h => kt h o (by rw [if_pos h] at ho; exact ho) hq
  have kf : ¬ (x = 0) → _ := fun h => kf h o (by rw [if_neg h] at ho; exact ho) hq
  obtain ⟨p, l, e, R, s, m, args, below, meth, c, rv, sf⟩ := k
  obtain ⟨hx, hb, hml, hown, hts, hK, hE, hr, hlk, hinj, hfr, hlo⟩ := hk
  intro H locs ls hl hP hS
  exact lv_if_eq hx hb hdg ht (fun h => kt h H locs ls hl hP hS) (fun h => kf h H locs ls hl hP hS)
theorem j_if_ne {w : fkW} {g : fkG} {k : fkK} {ρ : Type} {en : ρ → Option Value} {own : String} {cc : ByteArray} {nL fr lo pc : Nat} {ret : Option FieldType} {lv : List (Nat × Value)} {stk : List Value} {st : fkS} (hk : fk_ok w g k own cc nL ret fr lo) {x : Int32} {off : Int} {tgt : Nat} {inst : Decidable (x = 0)} {F1 F2 : Option (ρ × fkS)} (ht : (pc : Int) + off = (tgt : Int)) (hdg : decode cc pc = .ok (.ifCond .ne off, 3))
    (kt : x = 0 → fk_J w g en k (pc + 3) lv stk st F1) (kf : ¬ (x = 0) → fk_J w g en k tgt lv stk st F2) : fk_J w g en k pc lv (.int x :: stk) st (@ite (Option (ρ × fkS)) (x = 0) inst F1 F2) := by
  intro o ho hq
  have kt : x = 0 → _ := fun h => kt h o (by rw [if_pos h] at ho; exact ho) hq
  have kf : ¬ (x = 0) → _ := fun h => kf h o (by rw [if_neg h] at ho; exact ho) hq
  obtain ⟨p, l, e, R, s, m, args, below, meth, c, rv, sf⟩ := k
  obtain ⟨hx, hb, hml, hown, hts, hK, hE, hr, hlk, hinj, hfr, hlo⟩ := hk
  intro H locs ls hl hP hS
  exact lv_if_ne hx hb hdg ht (fun h => kf h H locs ls hl hP hS) (fun h => kt h H locs ls hl hP hS)
theorem j_if_lt {w : fkW} {g : fkG} {k : fkK} {ρ : Type} {en : ρ → Option Value} {own : String} {cc : ByteArray} {nL fr lo pc : Nat} {ret : Option FieldType} {lv : List (Nat × Value)} {stk : List Value} {st : fkS} (hk : fk_ok w g k own cc nL ret fr lo) {x : Int32} {off : Int} {tgt : Nat} {inst : Decidable (x < 0)} {F1 F2 : Option (ρ × fkS)} (ht : (pc : Int) + off = (tgt : Int)) (hdg : decode cc pc = .ok (.ifCond .lt off, 3))
    (kt : x < 0 → fk_J w g en k tgt lv stk st F1) (kf : ¬ (x < 0) → fk_J w g en k (pc + 3) lv stk st F2) : fk_J w g en k pc lv (.int x :: stk) st (@ite (Option (ρ × fkS)) (x < 0) inst F1 F2) := by
  intro o ho hq
  have kt : x < 0 → _ := fun h => kt h o (by rw [if_pos h] at ho; exact ho) hq
  have kf : ¬ (x < 0) → _ := fun h => kf h o (by rw [if_neg h] at ho; exact ho) hq
  obtain ⟨p, l, e, R, s, m, args, below, meth, c, rv, sf⟩ := k
  obtain ⟨hx, hb, hml, hown, hts, hK, hE, hr, hlk, hinj, hfr, hlo⟩ := hk
  intro H locs ls hl hP hS
  exact lv_if_lt hx hb hdg ht (fun h => kt h H locs ls hl hP hS) (fun h => kf h H locs ls hl hP hS)
theorem j_if_ge {w : fkW} {g : fkG} {k : fkK} {ρ : Type} {en : ρ → Option Value} {own : String} {cc : ByteArray} {nL fr lo pc : Nat} {ret : Option FieldType} {lv : List (Nat × Value)} {stk : List Value} {st : fkS} (hk : fk_ok w g k own cc nL ret fr lo) {x : Int32} {off : Int} {tgt : Nat} {inst : Decidable (0 ≤ x)} {F1 F2 : Option (ρ × fkS)} (ht : (pc : Int) + off = (tgt : Int)) (hdg : decode cc pc = .ok (.ifCond .ge off, 3))
    (kt : 0 ≤ x → fk_J w g en k tgt lv stk st F1) (kf : ¬ (0 ≤ x) → fk_J w g en k (pc + 3) lv stk st F2) : fk_J w g en k pc lv (.int x :: stk) st (@ite (Option (ρ × fkS)) (0 ≤ x) inst F1 F2) := by
  intro o ho hq
  have kt : 0 ≤ x → _ := fun h => kt h o (by rw [if_pos h] at ho; exact ho) hq
  have kf : ¬ (0 ≤ x) → _ := fun h => kf h o (by rw [if_neg h] at ho; exact ho) hq
  obtain ⟨p, l, e, R, s, m, args, below, meth, c, rv, sf⟩ := k
  obtain ⟨hx, hb, hml, hown, hts, hK, hE, hr, hlk, hinj, hfr, hlo⟩ := hk
  intro H locs ls hl hP hS
  exact lv_if_ge hx hb hdg ht (fun h => kt h H locs ls hl hP hS) (fun h => kf h H locs ls hl hP hS)
theorem j_if_gt {w : fkW} {g : fkG} {k : fkK} {ρ : Type} {en : ρ → Option Value} {own : String} {cc : ByteArray} {nL fr lo pc : Nat} {ret : Option FieldType} {lv : List (Nat × Value)} {stk : List Value} {st : fkS} (hk : fk_ok w g k own cc nL ret fr lo) {x : Int32} {off : Int} {tgt : Nat} {inst : Decidable (0 < x)} {F1 F2 : Option (ρ × fkS)} (ht : (pc : Int) + off = (tgt : Int)) (hdg : decode cc pc = .ok (.ifCond .gt off, 3))
    (kt : 0 < x → fk_J w g en k tgt lv stk st F1) (kf : ¬ (0 < x) → fk_J w g en k (pc + 3) lv stk st F2) : fk_J w g en k pc lv (.int x :: stk) st (@ite (Option (ρ × fkS)) (0 < x) inst F1 F2) := by
  intro o ho hq
  have kt : 0 < x → _ := fun h => kt h o (by rw [if_pos h] at ho; exact ho) hq
  have kf : ¬ (0 < x) → _ := fun h => kf h o (by rw [if_neg h] at ho; exact ho) hq
  obtain ⟨p, l, e, R, s, m, args, below, meth, c, rv, sf⟩ := k
  obtain ⟨hx, hb, hml, hown, hts, hK, hE, hr, hlk, hinj, hfr, hlo⟩ := hk
  intro H locs ls hl hP hS
  exact lv_if_gt hx hb hdg ht (fun h => kt h H locs ls hl hP hS) (fun h => kf h H locs ls hl hP hS)
theorem j_if_le {w : fkW} {g : fkG} {k : fkK} {ρ : Type} {en : ρ → Option Value} {own : String} {cc : ByteArray} {nL fr lo pc : Nat} {ret : Option FieldType} {lv : List (Nat × Value)} {stk : List Value} {st : fkS} (hk : fk_ok w g k own cc nL ret fr lo) {x : Int32} {off : Int} {tgt : Nat} {inst : Decidable (x ≤ 0)} {F1 F2 : Option (ρ × fkS)} (ht : (pc : Int) + off = (tgt : Int)) (hdg : decode cc pc = .ok (.ifCond .le off, 3))
    (kt : x ≤ 0 → fk_J w g en k tgt lv stk st F1) (kf : ¬ (x ≤ 0) → fk_J w g en k (pc + 3) lv stk st F2) : fk_J w g en k pc lv (.int x :: stk) st (@ite (Option (ρ × fkS)) (x ≤ 0) inst F1 F2) := by
  intro o ho hq
  have kt : x ≤ 0 → _ := fun h => kt h o (by rw [if_pos h] at ho; exact ho) hq
  have kf : ¬ (x ≤ 0) → _ := fun h => kf h o (by rw [if_neg h] at ho; exact ho) hq
  obtain ⟨p, l, e, R, s, m, args, below, meth, c, rv, sf⟩ := k
  obtain ⟨hx, hb, hml, hown, hts, hK, hE, hr, hlk, hinj, hfr, hlo⟩ := hk
  intro H locs ls hl hP hS
  exact lv_if_le hx hb hdg ht (fun h => kt h H locs ls hl hP hS) (fun h => kf h H locs ls hl hP hS)
theorem j_icmp_eq {w : fkW} {g : fkG} {k : fkK} {ρ : Type} {en : ρ → Option Value} {own : String} {cc : ByteArray} {nL fr lo pc : Nat} {ret : Option FieldType} {lv : List (Nat × Value)} {stk : List Value} {st : fkS} (hk : fk_ok w g k own cc nL ret fr lo) {x y : Int32} {off : Int} {tgt : Nat} {inst : Decidable (x = y)} {F1 F2 : Option (ρ × fkS)} (ht : (pc : Int) + off = (tgt : Int)) (hdg : decode cc pc = .ok (.if_icmp .eq off, 3))
    (kt : x = y → fk_J w g en k tgt lv stk st F1) (kf : ¬ (x = y) → fk_J w g en k (pc + 3) lv stk st F2) : fk_J w g en k pc lv (.int y :: .int x :: stk) st (@ite (Option (ρ × fkS)) (x = y) inst F1 F2) := by
  intro o ho hq
  have kt : x = y → _ := fun h => kt h o (by rw [if_pos h] at ho; exact ho) hq
  have kf : ¬ (x = y) → _ := fun h => kf h o (by rw [if_neg h] at ho; exact ho) hq
  obtain ⟨p, l, e, R, s, m, args, below, meth, c, rv, sf⟩ := k
  obtain ⟨hx, hb, hml, hown, hts, hK, hE, hr, hlk, hinj, hfr, hlo⟩ := hk
  intro H locs ls hl hP hS
  exact lv_icmp_eq hx hb hdg ht (fun h => kt h H locs ls hl hP hS) (fun h => kf h H locs ls hl hP hS)
theorem j_icmp_ne {w : fkW} {g : fkG} {k : fkK} {ρ : Type} {en : ρ → Option Value} {own : String} {cc : ByteArray} {nL fr lo pc : Nat} {ret : Option FieldType} {lv : List (Nat × Value)} {stk : List Value} {st : fkS} (hk : fk_ok w g k own cc nL ret fr lo) {x y : Int32} {off : Int} {tgt : Nat} {inst : Decidable (x = y)} {F1 F2 : Option (ρ × fkS)} (ht : (pc : Int) + off = (tgt : Int)) (hdg : decode cc pc = .ok (.if_icmp .ne off, 3))
    (kt : x = y → fk_J w g en k (pc + 3) lv stk st F1) (kf : ¬ (x = y) → fk_J w g en k tgt lv stk st F2) : fk_J w g en k pc lv (.int y :: .int x :: stk) st (@ite (Option (ρ × fkS)) (x = y) inst F1 F2) := by
  intro o ho hq
  have kt : x = y → _ := fun h => kt h o (by rw [if_pos h] at ho; exact ho) hq
  have kf : ¬ (x = y) → _ := fun h => kf h o (by rw [if_neg h] at ho; exact ho) hq
  obtain ⟨p, l, e, R, s, m, args, below, meth, c, rv, sf⟩ := k
  obtain ⟨hx, hb, hml, hown, hts, hK, hE, hr, hlk, hinj, hfr, hlo⟩ := hk
  intro H locs ls hl hP hS
  exact lv_icmp_ne hx hb hdg ht (fun h => kf h H locs ls hl hP hS) (fun h => kt h H locs ls hl hP hS)
theorem j_icmp_lt {w : fkW} {g : fkG} {k : fkK} {ρ : Type} {en : ρ → Option Value} {own : String} {cc : ByteArray} {nL fr lo pc : Nat} {ret : Option FieldType} {lv : List (Nat × Value)} {stk : List Value} {st : fkS} (hk : fk_ok w g k own cc nL ret fr lo) {x y : Int32} {off : Int} {tgt : Nat} {inst : Decidable (x < y)} {F1 F2 : Option (ρ × fkS)} (ht : (pc : Int) + off = (tgt : Int)) (hdg : decode cc pc = .ok (.if_icmp .lt off, 3))
    (kt : x < y → fk_J w g en k tgt lv stk st F1) (kf : ¬ (x < y) → fk_J w g en k (pc + 3) lv stk st F2) : fk_J w g en k pc lv (.int y :: .int x :: stk) st (@ite (Option (ρ × fkS)) (x < y) inst F1 F2) := by
  intro o ho hq
  have kt : x < y → _ := fun h => kt h o (by rw [if_pos h] at ho; exact ho) hq
  have kf : ¬ (x < y) → _ := fun h => kf h o (by rw [if_neg h] at ho; exact ho) hq
  obtain ⟨p, l, e, R, s, m, args, below, meth, c, rv, sf⟩ := k
  obtain ⟨hx, hb, hml, hown, hts, hK, hE, hr, hlk, hinj, hfr, hlo⟩ := hk
  intro H locs ls hl hP hS
  exact lv_icmp_lt hx hb hdg ht (fun h => kt h H locs ls hl hP hS) (fun h => kf h H locs ls hl hP hS)
theorem j_icmp_ge {w : fkW} {g : fkG} {k : fkK} {ρ : Type} {en : ρ → Option Value} {own : String} {cc : ByteArray} {nL fr lo pc : Nat} {ret : Option FieldType} {lv : List (Nat × Value)} {stk : List Value} {st : fkS} (hk : fk_ok w g k own cc nL ret fr lo) {x y : Int32} {off : Int} {tgt : Nat} {inst : Decidable (y ≤ x)} {F1 F2 : Option (ρ × fkS)} (ht : (pc : Int) + off = (tgt : Int)) (hdg : decode cc pc = .ok (.if_icmp .ge off, 3))
    (kt : y ≤ x → fk_J w g en k tgt lv stk st F1) (kf : ¬ (y ≤ x) → fk_J w g en k (pc + 3) lv stk st F2) : fk_J w g en k pc lv (.int y :: .int x :: stk) st (@ite (Option (ρ × fkS)) (y ≤ x) inst F1 F2) := by
  intro o ho hq
  have kt : y ≤ x → _ := fun h => kt h o (by rw [if_pos h] at ho; exact ho) hq
  have kf : ¬ (y ≤ x) → _ := fun h => kf h o (by rw [if_neg h] at ho; exact ho) hq
  obtain ⟨p, l, e, R, s, m, args, below, meth, c, rv, sf⟩ := k
  obtain ⟨hx, hb, hml, hown, hts, hK, hE, hr, hlk, hinj, hfr, hlo⟩ := hk
  intro H locs ls hl hP hS
  exact lv_icmp_ge hx hb hdg ht (fun h => kt h H locs ls hl hP hS) (fun h => kf h H locs ls hl hP hS)
theorem j_icmp_gt {w : fkW} {g : fkG} {k : fkK} {ρ : Type} {en : ρ → Option Value} {own : String} {cc : ByteArray} {nL fr lo pc : Nat} {ret : Option FieldType} {lv : List (Nat × Value)} {stk : List Value} {st : fkS} (hk : fk_ok w g k own cc nL ret fr lo) {x y : Int32} {off : Int} {tgt : Nat} {inst : Decidable (y < x)} {F1 F2 : Option (ρ × fkS)} (ht : (pc : Int) + off = (tgt : Int)) (hdg : decode cc pc = .ok (.if_icmp .gt off, 3))
    (kt : y < x → fk_J w g en k tgt lv stk st F1) (kf : ¬ (y < x) → fk_J w g en k (pc + 3) lv stk st F2) : fk_J w g en k pc lv (.int y :: .int x :: stk) st (@ite (Option (ρ × fkS)) (y < x) inst F1 F2) := by
  intro o ho hq
  have kt : y < x → _ := fun h => kt h o (by rw [if_pos h] at ho; exact ho) hq
  have kf : ¬ (y < x) → _ := fun h => kf h o (by rw [if_neg h] at ho; exact ho) hq
  obtain ⟨p, l, e, R, s, m, args, below, meth, c, rv, sf⟩ := k
  obtain ⟨hx, hb, hml, hown, hts, hK, hE, hr, hlk, hinj, hfr, hlo⟩ := hk
  intro H locs ls hl hP hS
  exact lv_icmp_gt hx hb hdg ht (fun h => kt h H locs ls hl hP hS) (fun h => kf h H locs ls hl hP hS)
theorem j_icmp_le {w : fkW} {g : fkG} {k : fkK} {ρ : Type} {en : ρ → Option Value} {own : String} {cc : ByteArray} {nL fr lo pc : Nat} {ret : Option FieldType} {lv : List (Nat × Value)} {stk : List Value} {st : fkS} (hk : fk_ok w g k own cc nL ret fr lo) {x y : Int32} {off : Int} {tgt : Nat} {inst : Decidable (x ≤ y)} {F1 F2 : Option (ρ × fkS)} (ht : (pc : Int) + off = (tgt : Int)) (hdg : decode cc pc = .ok (.if_icmp .le off, 3))
    (kt : x ≤ y → fk_J w g en k tgt lv stk st F1) (kf : ¬ (x ≤ y) → fk_J w g en k (pc + 3) lv stk st F2) : fk_J w g en k pc lv (.int y :: .int x :: stk) st (@ite (Option (ρ × fkS)) (x ≤ y) inst F1 F2) := by
  intro o ho hq
  have kt : x ≤ y → _ := fun h => kt h o (by rw [if_pos h] at ho; exact ho) hq
  have kf : ¬ (x ≤ y) → _ := fun h => kf h o (by rw [if_neg h] at ho; exact ho) hq
  obtain ⟨p, l, e, R, s, m, args, below, meth, c, rv, sf⟩ := k
  obtain ⟨hx, hb, hml, hown, hts, hK, hE, hr, hlk, hinj, hfr, hlo⟩ := hk
  intro H locs ls hl hP hS
  exact lv_icmp_le hx hb hdg ht (fun h => kt h H locs ls hl hP hS) (fun h => kf h H locs ls hl hP hS)
theorem j_case {w : fkW} {g : fkG} {k : fkK} {ρ : Type} {en : ρ → Option Value} {own : String} {cc : ByteArray} {nL fr lo pc : Nat} {ret : Option FieldType} {lv : List (Nat × Value)} {stk : List Value} {st : fkS} (hk : fk_ok w g k own cc nL ret fr lo) {q : Prop} {inst : Decidable q} {F1 F2 : Option (ρ × fkS)} (kt : q → fk_J w g en k pc lv stk st F1) (kf : ¬ q → fk_J w g en k pc lv stk st F2) : fk_J w g en k pc lv stk st (@ite (Option (ρ × fkS)) q inst F1 F2) := by
  intro o ho hq
  by_cases h : q
  · rw [if_pos h] at ho
    exact kt h o ho hq
  · rw [if_neg h] at ho
    exact kf h o ho hq
theorem j_chk {w : fkW} {g : fkG} {k : fkK} {ρ : Type} {en : ρ → Option Value} {own : String} {cc : ByteArray} {nL fr lo pc : Nat} {ret : Option FieldType} {lv : List (Nat × Value)} {stk : List Value} {st : fkS} {F : Option (ρ × fkS)} (hk : fk_ok w g k own cc nL ret fr lo) {b : Bool} (kk : b = true → fk_J w g en k pc lv stk st F) : fk_J w g en k pc lv stk st (fk_chk b F) := by
  intro o ho hq
  cases b with
  | false => exact absurd ho (by simp [fk_chk])
  | true => exact kk rfl o ho hq
theorem j_none {w : fkW} {g : fkG} {k : fkK} {ρ : Type} {en : ρ → Option Value} {own : String} {cc : ByteArray} {nL fr lo pc : Nat} {ret : Option FieldType} {lv : List (Nat × Value)} {stk : List Value} {st : fkS} (hk : fk_ok w g k own cc nL ret fr lo) : fk_J w g en k pc lv stk st none := fun o ho _ => by cases ho
theorem j_let {w : fkW} {g : fkG} {k : fkK} {ρ : Type} {en : ρ → Option Value} {own : String} {cc : ByteArray} {nL fr lo pc : Nat} {ret : Option FieldType} {lv : List (Nat × Value)} {stk : List Value} {st : fkS} (hk : fk_ok w g k own cc nL ret fr lo) {α : Type} {a : α} {f : α → Option (ρ × fkS)} (kk : fk_J w g en k pc lv stk st (f a)) : fk_J w g en k pc lv stk st (fk_let a f) := kk
theorem j_tswIn {w : fkW} {g : fkG} {k : fkK} {ρ : Type} {en : ρ → Option Value} {own : String} {cc : ByteArray} {nL fr lo pc : Nat} {ret : Option FieldType} {lv : List (Nat × Value)} {stk : List Value} {st : fkS} {F : Option (ρ × fkS)} (hk : fk_ok w g k own cc nL ret fr lo) {dflt low hig : Int} {offs : Array Int} {len : Nat} {x : Int32} {off : Int} {tgt : Nat} (h1 : ¬ x.toInt < low) (h2 : ¬ hig < x.toInt) (hof : offs[(x.toInt - low).toNat]? = some off) (ht : (pc : Int) + off = (tgt : Int)) (hdg : decode cc pc = .ok (.tableswitch dflt low hig offs, len))
    (kk : fk_J w g en k tgt lv stk st F) : fk_J w g en k pc lv (.int x :: stk) st F := by
  intro o ho hq
  have kk := kk o ho hq
  obtain ⟨p, l, e, R, s, m, args, below, meth, c, rv, sf⟩ := k
  obtain ⟨hx, hb, hml, hown, hts, hK, hE, hr, hlk, hinj, hfr, hlo⟩ := hk
  intro H locs ls hl hP hS
  exact lv_tableIn hx hb hdg h1 h2 hof ht (kk H locs ls hl hP hS)
theorem j_tswOut {w : fkW} {g : fkG} {k : fkK} {ρ : Type} {en : ρ → Option Value} {own : String} {cc : ByteArray} {nL fr lo pc : Nat} {ret : Option FieldType} {lv : List (Nat × Value)} {stk : List Value} {st : fkS} {F : Option (ρ × fkS)} (hk : fk_ok w g k own cc nL ret fr lo) {dflt low hig : Int} {offs : Array Int} {len : Nat} {x : Int32} {tgt : Nat} (h1 : x.toInt < low ∨ hig < x.toInt) (ht : (pc : Int) + dflt = (tgt : Int)) (hdg : decode cc pc = .ok (.tableswitch dflt low hig offs, len))
    (kk : fk_J w g en k tgt lv stk st F) : fk_J w g en k pc lv (.int x :: stk) st F := by
  intro o ho hq
  have kk := kk o ho hq
  obtain ⟨p, l, e, R, s, m, args, below, meth, c, rv, sf⟩ := k
  obtain ⟨hx, hb, hml, hown, hts, hK, hE, hr, hlk, hinj, hfr, hlo⟩ := hk
  intro H locs ls hl hP hS
  exact lv_tableOut hx hb hdg h1 ht (kk H locs ls hl hP hS)
theorem j_lsw {w : fkW} {g : fkG} {k : fkK} {ρ : Type} {en : ρ → Option Value} {own : String} {cc : ByteArray} {nL fr lo pc : Nat} {ret : Option FieldType} {lv : List (Nat × Value)} {stk : List Value} {st : fkS} {F : Option (ρ × fkS)} (hk : fk_ok w g k own cc nL ret fr lo) {dflt : Int} {ps : Array (Int × Int)} {len : Nat} {x : Int32} {off : Int} {tgt : Nat} (hps : (ps.toList.zip (ps.toList.drop 1)).all (fun (a, next) => a.1 < next.1) = true) (hof : Op.lookupswitch.offset ps.toList dflt x.toInt = off) (ht : (pc : Int) + off = (tgt : Int)) (hdg : decode cc pc = .ok (.lookupswitch dflt ps, len))
    (kk : fk_J w g en k tgt lv stk st F) : fk_J w g en k pc lv (.int x :: stk) st F := by
  intro o ho hq
  have kk := kk o ho hq
  obtain ⟨p, l, e, R, s, m, args, below, meth, c, rv, sf⟩ := k
  obtain ⟨hx, hb, hml, hown, hts, hK, hE, hr, hlk, hinj, hfr, hlo⟩ := hk
  intro H locs ls hl hP hS
  exact lv_lookup hx hb hdg hps hof ht (kk H locs ls hl hP hS)
theorem j_ifnullR {w : fkW} {g : fkG} {k : fkK} {ρ : Type} {en : ρ → Option Value} {own : String} {cc : ByteArray} {nL fr lo pc : Nat} {ret : Option FieldType} {lv : List (Nat × Value)} {stk : List Value} {st : fkS} {F : Option (ρ × fkS)} (hk : fk_ok w g k own cc nL ret fr lo) {v : Value} (hv : ∃ a, v = .ref a) {off : Int} (hdg : decode cc pc = .ok (.ifnull off, 3))
    (kk : fk_J w g en k (pc + 3) lv stk st F) : fk_J w g en k pc lv (v :: stk) st F := by
  obtain ⟨a, rfl⟩ := hv
  intro o ho hq
  have kk := kk o ho hq
  obtain ⟨p, l, e, R, s, m, args, below, meth, c, rv, sf⟩ := k
  obtain ⟨hx, hb, hml, hown, hts, hK, hE, hr, hlk, hinj, hfr, hlo⟩ := hk
  intro H locs ls hl hP hS
  exact lv_ifnull hx hb hdg (kk H locs ls hl hP hS)
theorem j_ifnullN {w : fkW} {g : fkG} {k : fkK} {ρ : Type} {en : ρ → Option Value} {own : String} {cc : ByteArray} {nL fr lo pc : Nat} {ret : Option FieldType} {lv : List (Nat × Value)} {stk : List Value} {st : fkS} {F : Option (ρ × fkS)} (hk : fk_ok w g k own cc nL ret fr lo) {off : Int} {tgt : Nat} (ht : (pc : Int) + off = (tgt : Int)) (hdg : decode cc pc = .ok (.ifnull off, 3))
    (kk : fk_J w g en k tgt lv stk st F) : fk_J w g en k pc lv (.null :: stk) st F := by
  intro o ho hq
  have kk := kk o ho hq
  obtain ⟨p, l, e, R, s, m, args, below, meth, c, rv, sf⟩ := k
  obtain ⟨hx, hb, hml, hown, hts, hK, hE, hr, hlk, hinj, hfr, hlo⟩ := hk
  intro H locs ls hl hP hS
  exact lv_ifnullN hx hb hdg ht (kk H locs ls hl hP hS)
theorem j_ifnonnullR {w : fkW} {g : fkG} {k : fkK} {ρ : Type} {en : ρ → Option Value} {own : String} {cc : ByteArray} {nL fr lo pc : Nat} {ret : Option FieldType} {lv : List (Nat × Value)} {stk : List Value} {st : fkS} {F : Option (ρ × fkS)} (hk : fk_ok w g k own cc nL ret fr lo) {v : Value} (hv : ∃ a, v = .ref a) {off : Int} {tgt : Nat} (ht : (pc : Int) + off = (tgt : Int)) (hdg : decode cc pc = .ok (.ifnonnull off, 3))
    (kk : fk_J w g en k tgt lv stk st F) : fk_J w g en k pc lv (v :: stk) st F := by
  obtain ⟨a, rfl⟩ := hv
  intro o ho hq
  have kk := kk o ho hq
  obtain ⟨p, l, e, R, s, m, args, below, meth, c, rv, sf⟩ := k
  obtain ⟨hx, hb, hml, hown, hts, hK, hE, hr, hlk, hinj, hfr, hlo⟩ := hk
  intro H locs ls hl hP hS
  exact lv_ifnonnull hx hb hdg ht (kk H locs ls hl hP hS)
theorem j_mmax {w : fkW} {g : fkG} {k : fkK} {ρ : Type} {en : ρ → Option Value} {own : String} {cc : ByteArray} {nL fr lo pc : Nat} {ret : Option FieldType} {lv : List (Nat × Value)} {stk : List Value} {st : fkS} {F : Option (ρ × fkS)} (hk : fk_ok w g k own cc nL ret fr lo) {i : Nat} {x y : Int32} (hl1 : Cond.methodLink own i Lib.Math.max.name ∈ fkB) (h2 : Cond.static Lib.Math.max.name ∈ fkB) (h3 : Cond.initialized "java/lang/Math" ∈ fkB) (h4 : Cond.code Lib.Math.max.name Lib.Math.max.code 2 (some .int) ∈ fkB) (h5 : 1 ≤ fr) (h6 : (stk.map fun v => v.category).sum + 13 ≤ lo) (hdg : decode cc pc = .ok (.invokestatic i, 3))
    (kk : fk_J w g en k (pc + 3) lv (.int (fk_max x y) :: stk) st F) : fk_J w g en k pc lv (.int y :: .int x :: stk) st F := by
  intro o ho hq
  have kk := kk o ho hq
  obtain ⟨p, l, e, R, s, m, args, below, meth, c, rv, sf⟩ := k
  obtain ⟨hx, hb, hml, hown, hts, hK, hE, hr, hlk, hinj, hfr, hlo⟩ := hk
  intro H locs ls hl hP hS
  exact va_mmax hx hb hl.1.symm hown (hts _ hl1) (hts _ h2) (hts _ h3) (hts _ h4) (Nat.le_trans h5 hfr) (Nat.le_trans h6 hlo) (Nat.zero_le _) (Nat.zero_le _) hdg (kk H locs ls hl hP hS)
theorem j_mmin {w : fkW} {g : fkG} {k : fkK} {ρ : Type} {en : ρ → Option Value} {own : String} {cc : ByteArray} {nL fr lo pc : Nat} {ret : Option FieldType} {lv : List (Nat × Value)} {stk : List Value} {st : fkS} {F : Option (ρ × fkS)} (hk : fk_ok w g k own cc nL ret fr lo) {i : Nat} {x y : Int32} (hl1 : Cond.methodLink own i Lib.Math.min.name ∈ fkB) (h2 : Cond.static Lib.Math.min.name ∈ fkB) (h3 : Cond.initialized "java/lang/Math" ∈ fkB) (h4 : Cond.code Lib.Math.min.name Lib.Math.min.code 2 (some .int) ∈ fkB) (h5 : 1 ≤ fr) (h6 : (stk.map fun v => v.category).sum + 13 ≤ lo) (hdg : decode cc pc = .ok (.invokestatic i, 3))
    (kk : fk_J w g en k (pc + 3) lv (.int (fk_min x y) :: stk) st F) : fk_J w g en k pc lv (.int y :: .int x :: stk) st F := by
  intro o ho hq
  have kk := kk o ho hq
  obtain ⟨p, l, e, R, s, m, args, below, meth, c, rv, sf⟩ := k
  obtain ⟨hx, hb, hml, hown, hts, hK, hE, hr, hlk, hinj, hfr, hlo⟩ := hk
  intro H locs ls hl hP hS
  exact va_mmin hx hb hl.1.symm hown (hts _ hl1) (hts _ h2) (hts _ h3) (hts _ h4) (Nat.le_trans h5 hfr) (Nat.le_trans h6 hlo) (Nat.zero_le _) (Nat.zero_le _) hdg (kk H locs ls hl hP hS)
theorem j_iret {w : fkW} {g : fkG} {k : fkK} {own : String} {cc : ByteArray} {nL fr lo pc : Nat} {lv : List (Nat × Value)} {st : fkS} (hk : fk_ok w g k own cc nL (some .int) fr lo) {x : Int32} (hdg : decode cc pc = .ok (.ireturn, 1)) : fk_J w g fk_eI k pc lv [.int x] st (some (x, st)) := by
  intro o ho hq
  cases ho
  obtain ⟨p, l, e, R, s, m, args, below, meth, c, rv, sf⟩ := k
  cases hq
  obtain ⟨hx, hb, hml, hown, hts, hK, hE, hr, hlk, hinj, hfr, hlo⟩ := hk
  intro H locs ls hl hP hS
  exact W.iret hx hb hr (fun t ht hW => ⟨rfl, by rw [ht]; exact hP, hS.F ht⟩) hS.2.2 hdg hlk
theorem j_zret {w : fkW} {g : fkG} {k : fkK} {own : String} {cc : ByteArray} {nL fr lo pc : Nat} {lv : List (Nat × Value)} {st : fkS} {ty : FieldType} (hk : fk_ok w g k own cc nL (some ty) fr lo) {x : Int32} (hn : narrow ty (.int x) = .int x) (hdg : decode cc pc = .ok (.ireturn, 1)) : fk_J w g fk_eI k pc lv [.int x] st (some (x, st)) := by
  intro o ho hq
  cases ho
  obtain ⟨p, l, e, R, s, m, args, below, meth, c, rv, sf⟩ := k
  cases hq
  obtain ⟨hx, hb, hml, hown, hts, hK, hE, hr, hlk, hinj, hfr, hlo⟩ := hk
  intro H locs ls hl hP hS
  exact W.zret hx hb hr hn (fun t ht hW => ⟨rfl, by rw [ht]; exact hP, hS.F ht⟩) hS.2.2 hdg hlk
theorem j_lret {w : fkW} {g : fkG} {k : fkK} {own : String} {cc : ByteArray} {nL fr lo pc : Nat} {lv : List (Nat × Value)} {st : fkS} (hk : fk_ok w g k own cc nL (some .long) fr lo) {x : Int64} (hdg : decode cc pc = .ok (.lreturn, 1)) : fk_J w g fk_eL k pc lv [.long x] st (some (x, st)) := by
  intro o ho hq
  cases ho
  obtain ⟨p, l, e, R, s, m, args, below, meth, c, rv, sf⟩ := k
  cases hq
  obtain ⟨hx, hb, hml, hown, hts, hK, hE, hr, hlk, hinj, hfr, hlo⟩ := hk
  intro H locs ls hl hP hS
  exact W.lret hx hb hr (fun t ht hW => ⟨rfl, by rw [ht]; exact hP, hS.F ht⟩) hS.2.2 hdg hlk
theorem j_vret {w : fkW} {g : fkG} {k : fkK} {own : String} {cc : ByteArray} {nL fr lo pc : Nat} {lv : List (Nat × Value)} {st : fkS} (hk : fk_ok w g k own cc nL none fr lo) (hdg : decode cc pc = .ok (.return_, 1)) : fk_J w g fk_eU k pc lv [] st (some ((), st)) := by
  intro o ho hq
  cases ho
  obtain ⟨p, l, e, R, s, m, args, below, meth, c, rv, sf⟩ := k
  cases hq
  obtain ⟨hx, hb, hml, hown, hts, hK, hE, hr, hlk, hinj, hfr, hlo⟩ := hk
  intro H locs ls hl hP hS
  exact W.vret hx hb hr (fun t ht hW => ⟨rfl, by rw [ht]; exact hP, hS.F ht⟩) hS.2.2 hdg hlk
theorem j_qret {w : fkW} {g : fkG} {k : fkK} {own : String} {cc : ByteArray} {nL fr lo pc : Nat} {lv : List (Nat × Value)} {st : fkS} {nm : String} (hk : fk_ok w g k own cc nL (some (.object nm)) fr lo) {q : Nat} (hdg : decode cc pc = .ok (.areturn, 1)) : fk_J w g (fk_eQ g) k pc lv [fk_q g q] st (some (q, st)) := by
  intro o ho hq
  cases ho
  obtain ⟨p, l, e, R, s, m, args, below, meth, c, rv, sf⟩ := k
  cases hq
  obtain ⟨hx, hb, hml, hown, hts, hK, hE, hr, hlk, hinj, hfr, hlo⟩ := hk
  intro H locs ls hl hP hS
  exact W.aret (v := fk_q g q) hx hb hr (Or.inl ⟨_, rfl⟩) (Or.inr ⟨_, rfl⟩) (fun t ht hW => ⟨rfl, by rw [ht]; exact hP, hS.F ht⟩) hS.2.2 hdg hlk
/-- what a callee brings: its words -/
def fk_yV (y : MethodName) (b : ByteArray) (n : Nat) (ret : Option FieldType) (a : Nat) : Prop := (Cond.instanceMethod y ∈ fkB ∧ Cond.selects y.cls y y ∈ fkB) ∧ Cond.initialized y.cls ∈ fkB ∧ Cond.code y b n ret ∈ fkB ∧ (y.cls ≠ "java/lang/invoke/MethodHandle" ∧ y.cls ≠ "java/lang/invoke/VarHandle" ∧ (parseMethodDescriptor y.desc).map (fun d => d.parameters.length) = some a)
def fk_yS (y : MethodName) (b : ByteArray) (n : Nat) (ret : Option FieldType) (a : Nat) : Prop := Cond.static y ∈ fkB ∧ Cond.initialized y.cls ∈ fkB ∧ Cond.code y b n ret ∈ fkB ∧ (y.cls ≠ "java/lang/invoke/MethodHandle" ∧ y.cls ≠ "java/lang/invoke/VarHandle" ∧ (parseMethodDescriptor y.desc).map (fun d => d.parameters.length) = some a)
def fk_rcv (w : fkW) (g : fkG) (i : Nat) (C : String) : Prop := i < w.2 ∧ ∀ st : fkS, ∃ (ci : Nat) (fs : List Value) (q : vw_C), w.1 g st i = .inr (ci, fs) ∧ vwCl[ci]? = some q ∧ q.1 = C
def fk_bind {α β γ : Type} (o : Option (α × β)) (f : α → β → Option γ) : Option γ := match o with
  | some (a, b) => f a b
  | none => none
theorem fk_bind_of {α β γ : Type} {o : Option (α × β)} {f : α → β → Option γ} {z : γ} (h : fk_bind o f = some z) : ∃ a b, o = some (a, b) ∧ f a b = some z := by
  cases o with
  | none => exact absurd h (by simp [fk_bind])
  | some x => exact ⟨x.1, x.2, rfl, h⟩
theorem j_callVi {w : fkW} {g : fkG} {k : fkK} {ρ : Type} {en : ρ → Option Value} {own : String} {cc : ByteArray} {nL fr lo pc : Nat} {ret : Option FieldType} {lv : List (Nat × Value)} {stk : List Value} {st : fkS} (hk : fk_ok w g k own cc nL ret fr lo) {ix n a fr1 lo1 i : Nat} {y : MethodName} {b : ByteArray} {ret1 : Option FieldType} {f : Option (Int32 × fkS)} {F1 : Int32 → fkS → Option (ρ × fkS)} (As stk1 : List Value) (hstk : stk = As.reverse ++ fk_r g i :: stk1) (hC : ∀ (l : Launch) (o : Int32 × fkS), f = some o → fk_C w y b n ret1 fr1 lo1 l g (fk_r g i :: As) st (fk_eI o.1) o.2)
    (hrc : fk_rcv w g i y.cls) (hY : fk_yV y b n ret1 a) (hlink : Cond.methodLink own ix y ∈ fkB) (hlen : As.length = a) (hcat : (stk1.map fun v => v.category).sum ≤ 8) (hfr1 : fr1 + 1 ≤ fr) (hlo1 : 8 + (n + 11) + lo1 ≤ lo) (hdg : decode cc pc = .ok (.invokevirtual ix, 3))
    (kk : ∀ (r : Int32) (st1 : fkS), fk_J w g en k (pc + 3) lv (.int r :: stk1) st1 (F1 r st1)) : fk_J w g en k pc lv stk st (fk_bind f F1) := by
  intro o ho hq
  subst hstk
  obtain ⟨r, st1, hf, ho⟩ := fk_bind_of ho
  have kk := kk r st1 o ho hq
  obtain ⟨p, l, e, R, s, m, args, below, meth, c, rv, sf⟩ := k
  obtain ⟨hx, hb, hml, hown, hts, hK, hE, hr, hlk, hinj, hfr, hlo⟩ := hk
  intro H locs ls hl hP hS
  have hM := hC l (r, st1) hf hinj H.size
  obtain ⟨hi, hob⟩ := hrc
  obtain ⟨ci, fs, q, h1, h2, h3⟩ := hob st
  have hrecv : ∃ cellB : Cell, H[g.1 i]? = some cellB ∧ cellB.vm.isStatics = false ∧ s.vm.findClass y.cls = some cellB.cls := by
    rw [← h3]
    exact va_recv hK hP h2 (q0 := i) (by rw [fk_wat hi, h1])
  exact fk_after (va_runV (b := g.1 i) (As := As) (rest := stk1) ⟨hx, hb, hml, hown, hts⟩ hM (⟨callB_of a hts (fkB_good hY.2.2.1) rfl rfl rfl (hts _ hY.2.1) (hts _ hlink) hY.2.2.2 ⟨Nat.le_trans hfr1 hfr, Nat.le_trans hlo1 hlo⟩, hts _ hY.1.1, hts _ hY.1.2⟩) ⟨fk_blind, hrecv, fun U hU hW => fk_pre hK hE hP hS hU hW⟩ rfl hlen (hl.1.trans hml) rfl (lv_room hcat) hdg ⟨Nat.zero_le _, Nat.zero_le _⟩) hS
    (fun q h1 h2 => fk_A_up hS.1 q h2) (fk_A_up hS.1) (fun H1 locs1 hP1 hS1 => kk H1 locs1 ls hl hP1 hS1)
theorem j_callVv {w : fkW} {g : fkG} {k : fkK} {ρ : Type} {en : ρ → Option Value} {own : String} {cc : ByteArray} {nL fr lo pc : Nat} {ret : Option FieldType} {lv : List (Nat × Value)} {stk : List Value} {st : fkS} (hk : fk_ok w g k own cc nL ret fr lo) {ix n a fr1 lo1 i : Nat} {y : MethodName} {b : ByteArray} {ret1 : Option FieldType} {f : Option (Unit × fkS)} {F1 : Unit → fkS → Option (ρ × fkS)} (As stk1 : List Value) (hstk : stk = As.reverse ++ fk_r g i :: stk1) (hC : ∀ (l : Launch) (o : Unit × fkS), f = some o → fk_C w y b n ret1 fr1 lo1 l g (fk_r g i :: As) st (fk_eU o.1) o.2)
    (hrc : fk_rcv w g i y.cls) (hY : fk_yV y b n ret1 a) (hlink : Cond.methodLink own ix y ∈ fkB) (hlen : As.length = a) (hcat : (stk1.map fun v => v.category).sum ≤ 8) (hfr1 : fr1 + 1 ≤ fr) (hlo1 : 8 + (n + 11) + lo1 ≤ lo) (hdg : decode cc pc = .ok (.invokevirtual ix, 3))
    (kk : ∀ (r : Unit) (st1 : fkS), fk_J w g en k (pc + 3) lv (stk1) st1 (F1 r st1)) : fk_J w g en k pc lv stk st (fk_bind f F1) := by
  intro o ho hq
  subst hstk
  obtain ⟨r, st1, hf, ho⟩ := fk_bind_of ho
  have kk := kk r st1 o ho hq
  obtain ⟨p, l, e, R, s, m, args, below, meth, c, rv, sf⟩ := k
  obtain ⟨hx, hb, hml, hown, hts, hK, hE, hr, hlk, hinj, hfr, hlo⟩ := hk
  intro H locs ls hl hP hS
  have hM := hC l (r, st1) hf hinj H.size
  obtain ⟨hi, hob⟩ := hrc
  obtain ⟨ci, fs, q, h1, h2, h3⟩ := hob st
  have hrecv : ∃ cellB : Cell, H[g.1 i]? = some cellB ∧ cellB.vm.isStatics = false ∧ s.vm.findClass y.cls = some cellB.cls := by
    rw [← h3]
    exact va_recv hK hP h2 (q0 := i) (by rw [fk_wat hi, h1])
  exact fk_after (va_runV (b := g.1 i) (As := As) (rest := stk1) ⟨hx, hb, hml, hown, hts⟩ hM (⟨callB_of a hts (fkB_good hY.2.2.1) rfl rfl rfl (hts _ hY.2.1) (hts _ hlink) hY.2.2.2 ⟨Nat.le_trans hfr1 hfr, Nat.le_trans hlo1 hlo⟩, hts _ hY.1.1, hts _ hY.1.2⟩) ⟨fk_blind, hrecv, fun U hU hW => fk_pre hK hE hP hS hU hW⟩ rfl hlen (hl.1.trans hml) rfl (lv_room hcat) hdg ⟨Nat.zero_le _, Nat.zero_le _⟩) hS
    (fun q h1 h2 => fk_A_up hS.1 q h2) (fk_A_up hS.1) (fun H1 locs1 hP1 hS1 => kk H1 locs1 ls hl hP1 hS1)
theorem j_callVl {w : fkW} {g : fkG} {k : fkK} {ρ : Type} {en : ρ → Option Value} {own : String} {cc : ByteArray} {nL fr lo pc : Nat} {ret : Option FieldType} {lv : List (Nat × Value)} {stk : List Value} {st : fkS} (hk : fk_ok w g k own cc nL ret fr lo) {ix n a fr1 lo1 i : Nat} {y : MethodName} {b : ByteArray} {ret1 : Option FieldType} {f : Option (Int64 × fkS)} {F1 : Int64 → fkS → Option (ρ × fkS)} (As stk1 : List Value) (hstk : stk = As.reverse ++ fk_r g i :: stk1) (hC : ∀ (l : Launch) (o : Int64 × fkS), f = some o → fk_C w y b n ret1 fr1 lo1 l g (fk_r g i :: As) st (fk_eL o.1) o.2)
    (hrc : fk_rcv w g i y.cls) (hY : fk_yV y b n ret1 a) (hlink : Cond.methodLink own ix y ∈ fkB) (hlen : As.length = a) (hcat : (stk1.map fun v => v.category).sum ≤ 8) (hfr1 : fr1 + 1 ≤ fr) (hlo1 : 8 + (n + 11) + lo1 ≤ lo) (hdg : decode cc pc = .ok (.invokevirtual ix, 3))
    (kk : ∀ (r : Int64) (st1 : fkS), fk_J w g en k (pc + 3) lv (.long r :: stk1) st1 (F1 r st1)) : fk_J w g en k pc lv stk st (fk_bind f F1) := by
  intro o ho hq
  subst hstk
  obtain ⟨r, st1, hf, ho⟩ := fk_bind_of ho
  have kk := kk r st1 o ho hq
  obtain ⟨p, l, e, R, s, m, args, below, meth, c, rv, sf⟩ := k
  obtain ⟨hx, hb, hml, hown, hts, hK, hE, hr, hlk, hinj, hfr, hlo⟩ := hk
  intro H locs ls hl hP hS
  have hM := hC l (r, st1) hf hinj H.size
  obtain ⟨hi, hob⟩ := hrc
  obtain ⟨ci, fs, q, h1, h2, h3⟩ := hob st
  have hrecv : ∃ cellB : Cell, H[g.1 i]? = some cellB ∧ cellB.vm.isStatics = false ∧ s.vm.findClass y.cls = some cellB.cls := by
    rw [← h3]
    exact va_recv hK hP h2 (q0 := i) (by rw [fk_wat hi, h1])
  exact fk_after (va_runV (b := g.1 i) (As := As) (rest := stk1) ⟨hx, hb, hml, hown, hts⟩ hM (⟨callB_of a hts (fkB_good hY.2.2.1) rfl rfl rfl (hts _ hY.2.1) (hts _ hlink) hY.2.2.2 ⟨Nat.le_trans hfr1 hfr, Nat.le_trans hlo1 hlo⟩, hts _ hY.1.1, hts _ hY.1.2⟩) ⟨fk_blind, hrecv, fun U hU hW => fk_pre hK hE hP hS hU hW⟩ rfl hlen (hl.1.trans hml) rfl (lv_room hcat) hdg ⟨Nat.zero_le _, Nat.zero_le _⟩) hS
    (fun q h1 h2 => fk_A_up hS.1 q h2) (fk_A_up hS.1) (fun H1 locs1 hP1 hS1 => kk H1 locs1 ls hl hP1 hS1)
theorem j_callVq {w : fkW} {g : fkG} {k : fkK} {ρ : Type} {en : ρ → Option Value} {own : String} {cc : ByteArray} {nL fr lo pc : Nat} {ret : Option FieldType} {lv : List (Nat × Value)} {stk : List Value} {st : fkS} (hk : fk_ok w g k own cc nL ret fr lo) {ix n a fr1 lo1 i : Nat} {y : MethodName} {b : ByteArray} {ret1 : Option FieldType} {f : Option (Nat × fkS)} {F1 : Nat → fkS → Option (ρ × fkS)} (As stk1 : List Value) (hstk : stk = As.reverse ++ fk_r g i :: stk1) (hC : ∀ (l : Launch) (o : Nat × fkS), f = some o → fk_C w y b n ret1 fr1 lo1 l g (fk_r g i :: As) st ((fk_eQ g) o.1) o.2)
    (hrc : fk_rcv w g i y.cls) (hY : fk_yV y b n ret1 a) (hlink : Cond.methodLink own ix y ∈ fkB) (hlen : As.length = a) (hcat : (stk1.map fun v => v.category).sum ≤ 8) (hfr1 : fr1 + 1 ≤ fr) (hlo1 : 8 + (n + 11) + lo1 ≤ lo) (hdg : decode cc pc = .ok (.invokevirtual ix, 3))
    (kk : ∀ (r : Nat) (st1 : fkS), fk_J w g en k (pc + 3) lv (fk_q g r :: stk1) st1 (F1 r st1)) : fk_J w g en k pc lv stk st (fk_bind f F1) := by
  intro o ho hq
  subst hstk
  obtain ⟨r, st1, hf, ho⟩ := fk_bind_of ho
  have kk := kk r st1 o ho hq
  obtain ⟨p, l, e, R, s, m, args, below, meth, c, rv, sf⟩ := k
  obtain ⟨hx, hb, hml, hown, hts, hK, hE, hr, hlk, hinj, hfr, hlo⟩ := hk
  intro H locs ls hl hP hS
  have hM := hC l (r, st1) hf hinj H.size
  obtain ⟨hi, hob⟩ := hrc
  obtain ⟨ci, fs, q, h1, h2, h3⟩ := hob st
  have hrecv : ∃ cellB : Cell, H[g.1 i]? = some cellB ∧ cellB.vm.isStatics = false ∧ s.vm.findClass y.cls = some cellB.cls := by
    rw [← h3]
    exact va_recv hK hP h2 (q0 := i) (by rw [fk_wat hi, h1])
  exact fk_after (va_runV (b := g.1 i) (As := As) (rest := stk1) ⟨hx, hb, hml, hown, hts⟩ hM (⟨callB_of a hts (fkB_good hY.2.2.1) rfl rfl rfl (hts _ hY.2.1) (hts _ hlink) hY.2.2.2 ⟨Nat.le_trans hfr1 hfr, Nat.le_trans hlo1 hlo⟩, hts _ hY.1.1, hts _ hY.1.2⟩) ⟨fk_blind, hrecv, fun U hU hW => fk_pre hK hE hP hS hU hW⟩ rfl hlen (hl.1.trans hml) rfl (lv_room hcat) hdg ⟨Nat.zero_le _, Nat.zero_le _⟩) hS
    (fun q h1 h2 => fk_A_up hS.1 q h2) (fk_A_up hS.1) (fun H1 locs1 hP1 hS1 => kk H1 locs1 ls hl hP1 hS1)
theorem j_callVNi {w : fkW} {g : fkG} {k : fkK} {ρ : Type} {en : ρ → Option Value} {own : String} {cc : ByteArray} {nL fr lo pc : Nat} {ret : Option FieldType} {lv : List (Nat × Value)} {stk : List Value} {st : fkS} (hk : fk_ok w g k own cc nL ret fr lo) {ix n a fr1 lo1 i : Nat} {y : MethodName} {b : ByteArray} {ret1 : Option FieldType} {f : Option (Int32 × fkS)} {F1 : Int32 → fkS → Option (ρ × fkS)} (As stk1 : List Value) (hstk : stk = As.reverse ++ fk_r g i :: stk1) (hC : ∀ (l : Launch) (o : Int32 × fkS), f = some o → fk_C w y b n ret1 fr1 lo1 l g (fk_r g i :: As) st (fk_eI o.1) o.2)
    (hrc : fk_rcv w g i y.cls) (hY : fk_yV y b n ret1 a) (hlink : Cond.methodLinkNest own ix y "PieFunnels" ∈ fk_nests) (hlen : As.length = a) (hcat : (stk1.map fun v => v.category).sum ≤ 8) (hfr1 : fr1 + 1 ≤ fr) (hlo1 : 8 + (n + 11) + lo1 ≤ lo) (hdg : decode cc pc = .ok (.invokevirtual ix, 3))
    (kk : ∀ (r : Int32) (st1 : fkS), fk_J w g en k (pc + 3) lv (.int r :: stk1) st1 (F1 r st1)) : fk_J w g en k pc lv stk st (fk_bind f F1) := by
  intro o ho hq
  subst hstk
  obtain ⟨r, st1, hf, ho⟩ := fk_bind_of ho
  have kk := kk r st1 o ho hq
  obtain ⟨p, l, e, R, s, m, args, below, meth, c, rv, sf⟩ := k
  obtain ⟨hx, hb, hml, hown, hts, hK, hE, hr, hlk, hinj, hfr, hlo⟩ := hk
  intro H locs ls hl hP hS
  have hM := hC l (r, st1) hf hinj H.size
  obtain ⟨hi, hob⟩ := hrc
  obtain ⟨ci, fs, q, h1, h2, h3⟩ := hob st
  have hrecv : ∃ cellB : Cell, H[g.1 i]? = some cellB ∧ cellB.vm.isStatics = false ∧ s.vm.findClass y.cls = some cellB.cls := by
    rw [← h3]
    exact va_recv hK hP h2 (q0 := i) (by rw [fk_wat hi, h1])
  exact fk_after (va_runVN (b := g.1 i) (As := As) (rest := stk1) ⟨hx, hb, hml, hown, hts⟩ hM (⟨va_cnB a hts (fkB_good hY.2.2.1) rfl rfl rfl (hE.1 _ hlink) (hts _ hY.2.1) hY.2.2.2 ⟨Nat.le_trans hfr1 hfr, Nat.le_trans hlo1 hlo⟩, hts _ hY.1.1, hts _ hY.1.2⟩) ⟨fk_blind, hrecv, fun U hU hW => fk_pre hK hE hP hS hU hW⟩ rfl hlen (hl.1.trans hml) rfl (lv_room hcat) hdg ⟨Nat.zero_le _, Nat.zero_le _⟩) hS
    (fun q h1 h2 => fk_A_up hS.1 q h2) (fk_A_up hS.1) (fun H1 locs1 hP1 hS1 => kk H1 locs1 ls hl hP1 hS1)
theorem j_callVNv {w : fkW} {g : fkG} {k : fkK} {ρ : Type} {en : ρ → Option Value} {own : String} {cc : ByteArray} {nL fr lo pc : Nat} {ret : Option FieldType} {lv : List (Nat × Value)} {stk : List Value} {st : fkS} (hk : fk_ok w g k own cc nL ret fr lo) {ix n a fr1 lo1 i : Nat} {y : MethodName} {b : ByteArray} {ret1 : Option FieldType} {f : Option (Unit × fkS)} {F1 : Unit → fkS → Option (ρ × fkS)} (As stk1 : List Value) (hstk : stk = As.reverse ++ fk_r g i :: stk1) (hC : ∀ (l : Launch) (o : Unit × fkS), f = some o → fk_C w y b n ret1 fr1 lo1 l g (fk_r g i :: As) st (fk_eU o.1) o.2)
    (hrc : fk_rcv w g i y.cls) (hY : fk_yV y b n ret1 a) (hlink : Cond.methodLinkNest own ix y "PieFunnels" ∈ fk_nests) (hlen : As.length = a) (hcat : (stk1.map fun v => v.category).sum ≤ 8) (hfr1 : fr1 + 1 ≤ fr) (hlo1 : 8 + (n + 11) + lo1 ≤ lo) (hdg : decode cc pc = .ok (.invokevirtual ix, 3))
    (kk : ∀ (r : Unit) (st1 : fkS), fk_J w g en k (pc + 3) lv (stk1) st1 (F1 r st1)) : fk_J w g en k pc lv stk st (fk_bind f F1) := by
  intro o ho hq
  subst hstk
  obtain ⟨r, st1, hf, ho⟩ := fk_bind_of ho
  have kk := kk r st1 o ho hq
  obtain ⟨p, l, e, R, s, m, args, below, meth, c, rv, sf⟩ := k
  obtain ⟨hx, hb, hml, hown, hts, hK, hE, hr, hlk, hinj, hfr, hlo⟩ := hk
  intro H locs ls hl hP hS
  have hM := hC l (r, st1) hf hinj H.size
  obtain ⟨hi, hob⟩ := hrc
  obtain ⟨ci, fs, q, h1, h2, h3⟩ := hob st
  have hrecv : ∃ cellB : Cell, H[g.1 i]? = some cellB ∧ cellB.vm.isStatics = false ∧ s.vm.findClass y.cls = some cellB.cls := by
    rw [← h3]
    exact va_recv hK hP h2 (q0 := i) (by rw [fk_wat hi, h1])
  exact fk_after (va_runVN (b := g.1 i) (As := As) (rest := stk1) ⟨hx, hb, hml, hown, hts⟩ hM (⟨va_cnB a hts (fkB_good hY.2.2.1) rfl rfl rfl (hE.1 _ hlink) (hts _ hY.2.1) hY.2.2.2 ⟨Nat.le_trans hfr1 hfr, Nat.le_trans hlo1 hlo⟩, hts _ hY.1.1, hts _ hY.1.2⟩) ⟨fk_blind, hrecv, fun U hU hW => fk_pre hK hE hP hS hU hW⟩ rfl hlen (hl.1.trans hml) rfl (lv_room hcat) hdg ⟨Nat.zero_le _, Nat.zero_le _⟩) hS
    (fun q h1 h2 => fk_A_up hS.1 q h2) (fk_A_up hS.1) (fun H1 locs1 hP1 hS1 => kk H1 locs1 ls hl hP1 hS1)
theorem j_callVNl {w : fkW} {g : fkG} {k : fkK} {ρ : Type} {en : ρ → Option Value} {own : String} {cc : ByteArray} {nL fr lo pc : Nat} {ret : Option FieldType} {lv : List (Nat × Value)} {stk : List Value} {st : fkS} (hk : fk_ok w g k own cc nL ret fr lo) {ix n a fr1 lo1 i : Nat} {y : MethodName} {b : ByteArray} {ret1 : Option FieldType} {f : Option (Int64 × fkS)} {F1 : Int64 → fkS → Option (ρ × fkS)} (As stk1 : List Value) (hstk : stk = As.reverse ++ fk_r g i :: stk1) (hC : ∀ (l : Launch) (o : Int64 × fkS), f = some o → fk_C w y b n ret1 fr1 lo1 l g (fk_r g i :: As) st (fk_eL o.1) o.2)
    (hrc : fk_rcv w g i y.cls) (hY : fk_yV y b n ret1 a) (hlink : Cond.methodLinkNest own ix y "PieFunnels" ∈ fk_nests) (hlen : As.length = a) (hcat : (stk1.map fun v => v.category).sum ≤ 8) (hfr1 : fr1 + 1 ≤ fr) (hlo1 : 8 + (n + 11) + lo1 ≤ lo) (hdg : decode cc pc = .ok (.invokevirtual ix, 3))
    (kk : ∀ (r : Int64) (st1 : fkS), fk_J w g en k (pc + 3) lv (.long r :: stk1) st1 (F1 r st1)) : fk_J w g en k pc lv stk st (fk_bind f F1) := by
  intro o ho hq
  subst hstk
  obtain ⟨r, st1, hf, ho⟩ := fk_bind_of ho
  have kk := kk r st1 o ho hq
  obtain ⟨p, l, e, R, s, m, args, below, meth, c, rv, sf⟩ := k
  obtain ⟨hx, hb, hml, hown, hts, hK, hE, hr, hlk, hinj, hfr, hlo⟩ := hk
  intro H locs ls hl hP hS
  have hM := hC l (r, st1) hf hinj H.size
  obtain ⟨hi, hob⟩ := hrc
  obtain ⟨ci, fs, q, h1, h2, h3⟩ := hob st
  have hrecv : ∃ cellB : Cell, H[g.1 i]? = some cellB ∧ cellB.vm.isStatics = false ∧ s.vm.findClass y.cls = some cellB.cls := by
    rw [← h3]
    exact va_recv hK hP h2 (q0 := i) (by rw [fk_wat hi, h1])
  exact fk_after (va_runVN (b := g.1 i) (As := As) (rest := stk1) ⟨hx, hb, hml, hown, hts⟩ hM (⟨va_cnB a hts (fkB_good hY.2.2.1) rfl rfl rfl (hE.1 _ hlink) (hts _ hY.2.1) hY.2.2.2 ⟨Nat.le_trans hfr1 hfr, Nat.le_trans hlo1 hlo⟩, hts _ hY.1.1, hts _ hY.1.2⟩) ⟨fk_blind, hrecv, fun U hU hW => fk_pre hK hE hP hS hU hW⟩ rfl hlen (hl.1.trans hml) rfl (lv_room hcat) hdg ⟨Nat.zero_le _, Nat.zero_le _⟩) hS
    (fun q h1 h2 => fk_A_up hS.1 q h2) (fk_A_up hS.1) (fun H1 locs1 hP1 hS1 => kk H1 locs1 ls hl hP1 hS1)
theorem j_callVNq {w : fkW} {g : fkG} {k : fkK} {ρ : Type} {en : ρ → Option Value} {own : String} {cc : ByteArray} {nL fr lo pc : Nat} {ret : Option FieldType} {lv : List (Nat × Value)} {stk : List Value} {st : fkS} (hk : fk_ok w g k own cc nL ret fr lo) {ix n a fr1 lo1 i : Nat} {y : MethodName} {b : ByteArray} {ret1 : Option FieldType} {f : Option (Nat × fkS)} {F1 : Nat → fkS → Option (ρ × fkS)} (As stk1 : List Value) (hstk : stk = As.reverse ++ fk_r g i :: stk1) (hC : ∀ (l : Launch) (o : Nat × fkS), f = some o → fk_C w y b n ret1 fr1 lo1 l g (fk_r g i :: As) st ((fk_eQ g) o.1) o.2)
    (hrc : fk_rcv w g i y.cls) (hY : fk_yV y b n ret1 a) (hlink : Cond.methodLinkNest own ix y "PieFunnels" ∈ fk_nests) (hlen : As.length = a) (hcat : (stk1.map fun v => v.category).sum ≤ 8) (hfr1 : fr1 + 1 ≤ fr) (hlo1 : 8 + (n + 11) + lo1 ≤ lo) (hdg : decode cc pc = .ok (.invokevirtual ix, 3))
    (kk : ∀ (r : Nat) (st1 : fkS), fk_J w g en k (pc + 3) lv (fk_q g r :: stk1) st1 (F1 r st1)) : fk_J w g en k pc lv stk st (fk_bind f F1) := by
  intro o ho hq
  subst hstk
  obtain ⟨r, st1, hf, ho⟩ := fk_bind_of ho
  have kk := kk r st1 o ho hq
  obtain ⟨p, l, e, R, s, m, args, below, meth, c, rv, sf⟩ := k
  obtain ⟨hx, hb, hml, hown, hts, hK, hE, hr, hlk, hinj, hfr, hlo⟩ := hk
  intro H locs ls hl hP hS
  have hM := hC l (r, st1) hf hinj H.size
  obtain ⟨hi, hob⟩ := hrc
  obtain ⟨ci, fs, q, h1, h2, h3⟩ := hob st
  have hrecv : ∃ cellB : Cell, H[g.1 i]? = some cellB ∧ cellB.vm.isStatics = false ∧ s.vm.findClass y.cls = some cellB.cls := by
    rw [← h3]
    exact va_recv hK hP h2 (q0 := i) (by rw [fk_wat hi, h1])
  exact fk_after (va_runVN (b := g.1 i) (As := As) (rest := stk1) ⟨hx, hb, hml, hown, hts⟩ hM (⟨va_cnB a hts (fkB_good hY.2.2.1) rfl rfl rfl (hE.1 _ hlink) (hts _ hY.2.1) hY.2.2.2 ⟨Nat.le_trans hfr1 hfr, Nat.le_trans hlo1 hlo⟩, hts _ hY.1.1, hts _ hY.1.2⟩) ⟨fk_blind, hrecv, fun U hU hW => fk_pre hK hE hP hS hU hW⟩ rfl hlen (hl.1.trans hml) rfl (lv_room hcat) hdg ⟨Nat.zero_le _, Nat.zero_le _⟩) hS
    (fun q h1 h2 => fk_A_up hS.1 q h2) (fk_A_up hS.1) (fun H1 locs1 hP1 hS1 => kk H1 locs1 ls hl hP1 hS1)
theorem j_callSi {w : fkW} {g : fkG} {k : fkK} {ρ : Type} {en : ρ → Option Value} {own : String} {cc : ByteArray} {nL fr lo pc : Nat} {ret : Option FieldType} {lv : List (Nat × Value)} {stk : List Value} {st : fkS} (hk : fk_ok w g k own cc nL ret fr lo) {ix n a fr1 lo1 : Nat} {y : MethodName} {b : ByteArray} {ret1 : Option FieldType} {f : Option (Int32 × fkS)} {F1 : Int32 → fkS → Option (ρ × fkS)} (As stk1 : List Value) (hstk : stk = As.reverse ++ stk1) (hC : ∀ (l : Launch) (o : Int32 × fkS), f = some o → fk_C w y b n ret1 fr1 lo1 l g As st (fk_eI o.1) o.2)
    (hY : fk_yS y b n ret1 a) (hlink : Cond.methodLink own ix y ∈ fkB) (hlen : As.length = a) (hcat : (stk1.map fun v => v.category).sum ≤ 8) (hfr1 : fr1 + 1 ≤ fr) (hlo1 : 8 + (n + 11) + lo1 ≤ lo) (hdg : decode cc pc = .ok (.invokestatic ix, 3))
    (kk : ∀ (r : Int32) (st1 : fkS), fk_J w g en k (pc + 3) lv (.int r :: stk1) st1 (F1 r st1)) : fk_J w g en k pc lv stk st (fk_bind f F1) := by
  intro o ho hq
  subst hstk
  obtain ⟨r, st1, hf, ho⟩ := fk_bind_of ho
  have kk := kk r st1 o ho hq
  obtain ⟨p, l, e, R, s, m, args, below, meth, c, rv, sf⟩ := k
  obtain ⟨hx, hb, hml, hown, hts, hK, hE, hr, hlk, hinj, hfr, hlo⟩ := hk
  intro H locs ls hl hP hS
  have hM := hC l (r, st1) hf hinj H.size
  exact fk_after (va_runS (As := As) (rest := stk1) ⟨hx, hb, hml, hown, hts⟩ hM (⟨callB_of a hts (fkB_good hY.2.2.1) rfl rfl rfl (hts _ hY.2.1) (hts _ hlink) hY.2.2.2 ⟨Nat.le_trans hfr1 hfr, Nat.le_trans hlo1 hlo⟩, hts _ hY.1⟩) ⟨fk_blind, fun U hU hW => fk_pre hK hE hP hS hU hW⟩ rfl hlen (hl.1.trans hml) rfl (lv_room hcat) hdg ⟨Nat.zero_le _, Nat.zero_le _⟩) hS
    (fun q h1 h2 => fk_A_up hS.1 q h2) (fk_A_up hS.1) (fun H1 locs1 hP1 hS1 => kk H1 locs1 ls hl hP1 hS1)
theorem j_callSv {w : fkW} {g : fkG} {k : fkK} {ρ : Type} {en : ρ → Option Value} {own : String} {cc : ByteArray} {nL fr lo pc : Nat} {ret : Option FieldType} {lv : List (Nat × Value)} {stk : List Value} {st : fkS} (hk : fk_ok w g k own cc nL ret fr lo) {ix n a fr1 lo1 : Nat} {y : MethodName} {b : ByteArray} {ret1 : Option FieldType} {f : Option (Unit × fkS)} {F1 : Unit → fkS → Option (ρ × fkS)} (As stk1 : List Value) (hstk : stk = As.reverse ++ stk1) (hC : ∀ (l : Launch) (o : Unit × fkS), f = some o → fk_C w y b n ret1 fr1 lo1 l g As st (fk_eU o.1) o.2)
    (hY : fk_yS y b n ret1 a) (hlink : Cond.methodLink own ix y ∈ fkB) (hlen : As.length = a) (hcat : (stk1.map fun v => v.category).sum ≤ 8) (hfr1 : fr1 + 1 ≤ fr) (hlo1 : 8 + (n + 11) + lo1 ≤ lo) (hdg : decode cc pc = .ok (.invokestatic ix, 3))
    (kk : ∀ (r : Unit) (st1 : fkS), fk_J w g en k (pc + 3) lv (stk1) st1 (F1 r st1)) : fk_J w g en k pc lv stk st (fk_bind f F1) := by
  intro o ho hq
  subst hstk
  obtain ⟨r, st1, hf, ho⟩ := fk_bind_of ho
  have kk := kk r st1 o ho hq
  obtain ⟨p, l, e, R, s, m, args, below, meth, c, rv, sf⟩ := k
  obtain ⟨hx, hb, hml, hown, hts, hK, hE, hr, hlk, hinj, hfr, hlo⟩ := hk
  intro H locs ls hl hP hS
  have hM := hC l (r, st1) hf hinj H.size
  exact fk_after (va_runS (As := As) (rest := stk1) ⟨hx, hb, hml, hown, hts⟩ hM (⟨callB_of a hts (fkB_good hY.2.2.1) rfl rfl rfl (hts _ hY.2.1) (hts _ hlink) hY.2.2.2 ⟨Nat.le_trans hfr1 hfr, Nat.le_trans hlo1 hlo⟩, hts _ hY.1⟩) ⟨fk_blind, fun U hU hW => fk_pre hK hE hP hS hU hW⟩ rfl hlen (hl.1.trans hml) rfl (lv_room hcat) hdg ⟨Nat.zero_le _, Nat.zero_le _⟩) hS
    (fun q h1 h2 => fk_A_up hS.1 q h2) (fk_A_up hS.1) (fun H1 locs1 hP1 hS1 => kk H1 locs1 ls hl hP1 hS1)
theorem j_callSl {w : fkW} {g : fkG} {k : fkK} {ρ : Type} {en : ρ → Option Value} {own : String} {cc : ByteArray} {nL fr lo pc : Nat} {ret : Option FieldType} {lv : List (Nat × Value)} {stk : List Value} {st : fkS} (hk : fk_ok w g k own cc nL ret fr lo) {ix n a fr1 lo1 : Nat} {y : MethodName} {b : ByteArray} {ret1 : Option FieldType} {f : Option (Int64 × fkS)} {F1 : Int64 → fkS → Option (ρ × fkS)} (As stk1 : List Value) (hstk : stk = As.reverse ++ stk1) (hC : ∀ (l : Launch) (o : Int64 × fkS), f = some o → fk_C w y b n ret1 fr1 lo1 l g As st (fk_eL o.1) o.2)
    (hY : fk_yS y b n ret1 a) (hlink : Cond.methodLink own ix y ∈ fkB) (hlen : As.length = a) (hcat : (stk1.map fun v => v.category).sum ≤ 8) (hfr1 : fr1 + 1 ≤ fr) (hlo1 : 8 + (n + 11) + lo1 ≤ lo) (hdg : decode cc pc = .ok (.invokestatic ix, 3))
    (kk : ∀ (r : Int64) (st1 : fkS), fk_J w g en k (pc + 3) lv (.long r :: stk1) st1 (F1 r st1)) : fk_J w g en k pc lv stk st (fk_bind f F1) := by
  intro o ho hq
  subst hstk
  obtain ⟨r, st1, hf, ho⟩ := fk_bind_of ho
  have kk := kk r st1 o ho hq
  obtain ⟨p, l, e, R, s, m, args, below, meth, c, rv, sf⟩ := k
  obtain ⟨hx, hb, hml, hown, hts, hK, hE, hr, hlk, hinj, hfr, hlo⟩ := hk
  intro H locs ls hl hP hS
  have hM := hC l (r, st1) hf hinj H.size
  exact fk_after (va_runS (As := As) (rest := stk1) ⟨hx, hb, hml, hown, hts⟩ hM (⟨callB_of a hts (fkB_good hY.2.2.1) rfl rfl rfl (hts _ hY.2.1) (hts _ hlink) hY.2.2.2 ⟨Nat.le_trans hfr1 hfr, Nat.le_trans hlo1 hlo⟩, hts _ hY.1⟩) ⟨fk_blind, fun U hU hW => fk_pre hK hE hP hS hU hW⟩ rfl hlen (hl.1.trans hml) rfl (lv_room hcat) hdg ⟨Nat.zero_le _, Nat.zero_le _⟩) hS
    (fun q h1 h2 => fk_A_up hS.1 q h2) (fk_A_up hS.1) (fun H1 locs1 hP1 hS1 => kk H1 locs1 ls hl hP1 hS1)
theorem j_callSq {w : fkW} {g : fkG} {k : fkK} {ρ : Type} {en : ρ → Option Value} {own : String} {cc : ByteArray} {nL fr lo pc : Nat} {ret : Option FieldType} {lv : List (Nat × Value)} {stk : List Value} {st : fkS} (hk : fk_ok w g k own cc nL ret fr lo) {ix n a fr1 lo1 : Nat} {y : MethodName} {b : ByteArray} {ret1 : Option FieldType} {f : Option (Nat × fkS)} {F1 : Nat → fkS → Option (ρ × fkS)} (As stk1 : List Value) (hstk : stk = As.reverse ++ stk1) (hC : ∀ (l : Launch) (o : Nat × fkS), f = some o → fk_C w y b n ret1 fr1 lo1 l g As st ((fk_eQ g) o.1) o.2)
    (hY : fk_yS y b n ret1 a) (hlink : Cond.methodLink own ix y ∈ fkB) (hlen : As.length = a) (hcat : (stk1.map fun v => v.category).sum ≤ 8) (hfr1 : fr1 + 1 ≤ fr) (hlo1 : 8 + (n + 11) + lo1 ≤ lo) (hdg : decode cc pc = .ok (.invokestatic ix, 3))
    (kk : ∀ (r : Nat) (st1 : fkS), fk_J w g en k (pc + 3) lv (fk_q g r :: stk1) st1 (F1 r st1)) : fk_J w g en k pc lv stk st (fk_bind f F1) := by
  intro o ho hq
  subst hstk
  obtain ⟨r, st1, hf, ho⟩ := fk_bind_of ho
  have kk := kk r st1 o ho hq
  obtain ⟨p, l, e, R, s, m, args, below, meth, c, rv, sf⟩ := k
  obtain ⟨hx, hb, hml, hown, hts, hK, hE, hr, hlk, hinj, hfr, hlo⟩ := hk
  intro H locs ls hl hP hS
  have hM := hC l (r, st1) hf hinj H.size
  exact fk_after (va_runS (As := As) (rest := stk1) ⟨hx, hb, hml, hown, hts⟩ hM (⟨callB_of a hts (fkB_good hY.2.2.1) rfl rfl rfl (hts _ hY.2.1) (hts _ hlink) hY.2.2.2 ⟨Nat.le_trans hfr1 hfr, Nat.le_trans hlo1 hlo⟩, hts _ hY.1⟩) ⟨fk_blind, fun U hU hW => fk_pre hK hE hP hS hU hW⟩ rfl hlen (hl.1.trans hml) rfl (lv_room hcat) hdg ⟨Nat.zero_le _, Nat.zero_le _⟩) hS
    (fun q h1 h2 => fk_A_up hS.1 q h2) (fk_A_up hS.1) (fun H1 locs1 hP1 hS1 => kk H1 locs1 ls hl hP1 hS1)
theorem j_callSNi {w : fkW} {g : fkG} {k : fkK} {ρ : Type} {en : ρ → Option Value} {own : String} {cc : ByteArray} {nL fr lo pc : Nat} {ret : Option FieldType} {lv : List (Nat × Value)} {stk : List Value} {st : fkS} (hk : fk_ok w g k own cc nL ret fr lo) {ix n a fr1 lo1 : Nat} {y : MethodName} {b : ByteArray} {ret1 : Option FieldType} {f : Option (Int32 × fkS)} {F1 : Int32 → fkS → Option (ρ × fkS)} (As stk1 : List Value) (hstk : stk = As.reverse ++ stk1) (hC : ∀ (l : Launch) (o : Int32 × fkS), f = some o → fk_C w y b n ret1 fr1 lo1 l g As st (fk_eI o.1) o.2)
    (hY : fk_yS y b n ret1 a) (hlink : Cond.methodLinkNest own ix y "PieFunnels" ∈ fk_nests) (hlen : As.length = a) (hcat : (stk1.map fun v => v.category).sum ≤ 8) (hfr1 : fr1 + 1 ≤ fr) (hlo1 : 8 + (n + 11) + lo1 ≤ lo) (hdg : decode cc pc = .ok (.invokestatic ix, 3))
    (kk : ∀ (r : Int32) (st1 : fkS), fk_J w g en k (pc + 3) lv (.int r :: stk1) st1 (F1 r st1)) : fk_J w g en k pc lv stk st (fk_bind f F1) := by
  intro o ho hq
  subst hstk
  obtain ⟨r, st1, hf, ho⟩ := fk_bind_of ho
  have kk := kk r st1 o ho hq
  obtain ⟨p, l, e, R, s, m, args, below, meth, c, rv, sf⟩ := k
  obtain ⟨hx, hb, hml, hown, hts, hK, hE, hr, hlk, hinj, hfr, hlo⟩ := hk
  intro H locs ls hl hP hS
  have hM := hC l (r, st1) hf hinj H.size
  exact fk_after (va_runSN (As := As) (rest := stk1) ⟨hx, hb, hml, hown, hts⟩ hM (⟨va_cnB a hts (fkB_good hY.2.2.1) rfl rfl rfl (hE.1 _ hlink) (hts _ hY.2.1) hY.2.2.2 ⟨Nat.le_trans hfr1 hfr, Nat.le_trans hlo1 hlo⟩, hts _ hY.1, trivial⟩) ⟨fk_blind, fun U hU hW => fk_pre hK hE hP hS hU hW⟩ rfl hlen (hl.1.trans hml) rfl (lv_room hcat) hdg ⟨Nat.zero_le _, Nat.zero_le _⟩) hS
    (fun q h1 h2 => fk_A_up hS.1 q h2) (fk_A_up hS.1) (fun H1 locs1 hP1 hS1 => kk H1 locs1 ls hl hP1 hS1)
theorem j_callSNv {w : fkW} {g : fkG} {k : fkK} {ρ : Type} {en : ρ → Option Value} {own : String} {cc : ByteArray} {nL fr lo pc : Nat} {ret : Option FieldType} {lv : List (Nat × Value)} {stk : List Value} {st : fkS} (hk : fk_ok w g k own cc nL ret fr lo) {ix n a fr1 lo1 : Nat} {y : MethodName} {b : ByteArray} {ret1 : Option FieldType} {f : Option (Unit × fkS)} {F1 : Unit → fkS → Option (ρ × fkS)} (As stk1 : List Value) (hstk : stk = As.reverse ++ stk1) (hC : ∀ (l : Launch) (o : Unit × fkS), f = some o → fk_C w y b n ret1 fr1 lo1 l g As st (fk_eU o.1) o.2)
    (hY : fk_yS y b n ret1 a) (hlink : Cond.methodLinkNest own ix y "PieFunnels" ∈ fk_nests) (hlen : As.length = a) (hcat : (stk1.map fun v => v.category).sum ≤ 8) (hfr1 : fr1 + 1 ≤ fr) (hlo1 : 8 + (n + 11) + lo1 ≤ lo) (hdg : decode cc pc = .ok (.invokestatic ix, 3))
    (kk : ∀ (r : Unit) (st1 : fkS), fk_J w g en k (pc + 3) lv (stk1) st1 (F1 r st1)) : fk_J w g en k pc lv stk st (fk_bind f F1) := by
  intro o ho hq
  subst hstk
  obtain ⟨r, st1, hf, ho⟩ := fk_bind_of ho
  have kk := kk r st1 o ho hq
  obtain ⟨p, l, e, R, s, m, args, below, meth, c, rv, sf⟩ := k
  obtain ⟨hx, hb, hml, hown, hts, hK, hE, hr, hlk, hinj, hfr, hlo⟩ := hk
  intro H locs ls hl hP hS
  have hM := hC l (r, st1) hf hinj H.size
  exact fk_after (va_runSN (As := As) (rest := stk1) ⟨hx, hb, hml, hown, hts⟩ hM (⟨va_cnB a hts (fkB_good hY.2.2.1) rfl rfl rfl (hE.1 _ hlink) (hts _ hY.2.1) hY.2.2.2 ⟨Nat.le_trans hfr1 hfr, Nat.le_trans hlo1 hlo⟩, hts _ hY.1, trivial⟩) ⟨fk_blind, fun U hU hW => fk_pre hK hE hP hS hU hW⟩ rfl hlen (hl.1.trans hml) rfl (lv_room hcat) hdg ⟨Nat.zero_le _, Nat.zero_le _⟩) hS
    (fun q h1 h2 => fk_A_up hS.1 q h2) (fk_A_up hS.1) (fun H1 locs1 hP1 hS1 => kk H1 locs1 ls hl hP1 hS1)
theorem j_callSNl {w : fkW} {g : fkG} {k : fkK} {ρ : Type} {en : ρ → Option Value} {own : String} {cc : ByteArray} {nL fr lo pc : Nat} {ret : Option FieldType} {lv : List (Nat × Value)} {stk : List Value} {st : fkS} (hk : fk_ok w g k own cc nL ret fr lo) {ix n a fr1 lo1 : Nat} {y : MethodName} {b : ByteArray} {ret1 : Option FieldType} {f : Option (Int64 × fkS)} {F1 : Int64 → fkS → Option (ρ × fkS)} (As stk1 : List Value) (hstk : stk = As.reverse ++ stk1) (hC : ∀ (l : Launch) (o : Int64 × fkS), f = some o → fk_C w y b n ret1 fr1 lo1 l g As st (fk_eL o.1) o.2)
    (hY : fk_yS y b n ret1 a) (hlink : Cond.methodLinkNest own ix y "PieFunnels" ∈ fk_nests) (hlen : As.length = a) (hcat : (stk1.map fun v => v.category).sum ≤ 8) (hfr1 : fr1 + 1 ≤ fr) (hlo1 : 8 + (n + 11) + lo1 ≤ lo) (hdg : decode cc pc = .ok (.invokestatic ix, 3))
    (kk : ∀ (r : Int64) (st1 : fkS), fk_J w g en k (pc + 3) lv (.long r :: stk1) st1 (F1 r st1)) : fk_J w g en k pc lv stk st (fk_bind f F1) := by
  intro o ho hq
  subst hstk
  obtain ⟨r, st1, hf, ho⟩ := fk_bind_of ho
  have kk := kk r st1 o ho hq
  obtain ⟨p, l, e, R, s, m, args, below, meth, c, rv, sf⟩ := k
  obtain ⟨hx, hb, hml, hown, hts, hK, hE, hr, hlk, hinj, hfr, hlo⟩ := hk
  intro H locs ls hl hP hS
  have hM := hC l (r, st1) hf hinj H.size
  exact fk_after (va_runSN (As := As) (rest := stk1) ⟨hx, hb, hml, hown, hts⟩ hM (⟨va_cnB a hts (fkB_good hY.2.2.1) rfl rfl rfl (hE.1 _ hlink) (hts _ hY.2.1) hY.2.2.2 ⟨Nat.le_trans hfr1 hfr, Nat.le_trans hlo1 hlo⟩, hts _ hY.1, trivial⟩) ⟨fk_blind, fun U hU hW => fk_pre hK hE hP hS hU hW⟩ rfl hlen (hl.1.trans hml) rfl (lv_room hcat) hdg ⟨Nat.zero_le _, Nat.zero_le _⟩) hS
    (fun q h1 h2 => fk_A_up hS.1 q h2) (fk_A_up hS.1) (fun H1 locs1 hP1 hS1 => kk H1 locs1 ls hl hP1 hS1)
theorem j_callSNq {w : fkW} {g : fkG} {k : fkK} {ρ : Type} {en : ρ → Option Value} {own : String} {cc : ByteArray} {nL fr lo pc : Nat} {ret : Option FieldType} {lv : List (Nat × Value)} {stk : List Value} {st : fkS} (hk : fk_ok w g k own cc nL ret fr lo) {ix n a fr1 lo1 : Nat} {y : MethodName} {b : ByteArray} {ret1 : Option FieldType} {f : Option (Nat × fkS)} {F1 : Nat → fkS → Option (ρ × fkS)} (As stk1 : List Value) (hstk : stk = As.reverse ++ stk1) (hC : ∀ (l : Launch) (o : Nat × fkS), f = some o → fk_C w y b n ret1 fr1 lo1 l g As st ((fk_eQ g) o.1) o.2)
    (hY : fk_yS y b n ret1 a) (hlink : Cond.methodLinkNest own ix y "PieFunnels" ∈ fk_nests) (hlen : As.length = a) (hcat : (stk1.map fun v => v.category).sum ≤ 8) (hfr1 : fr1 + 1 ≤ fr) (hlo1 : 8 + (n + 11) + lo1 ≤ lo) (hdg : decode cc pc = .ok (.invokestatic ix, 3))
    (kk : ∀ (r : Nat) (st1 : fkS), fk_J w g en k (pc + 3) lv (fk_q g r :: stk1) st1 (F1 r st1)) : fk_J w g en k pc lv stk st (fk_bind f F1) := by
  intro o ho hq
  subst hstk
  obtain ⟨r, st1, hf, ho⟩ := fk_bind_of ho
  have kk := kk r st1 o ho hq
  obtain ⟨p, l, e, R, s, m, args, below, meth, c, rv, sf⟩ := k
  obtain ⟨hx, hb, hml, hown, hts, hK, hE, hr, hlk, hinj, hfr, hlo⟩ := hk
  intro H locs ls hl hP hS
  have hM := hC l (r, st1) hf hinj H.size
  exact fk_after (va_runSN (As := As) (rest := stk1) ⟨hx, hb, hml, hown, hts⟩ hM (⟨va_cnB a hts (fkB_good hY.2.2.1) rfl rfl rfl (hE.1 _ hlink) (hts _ hY.2.1) hY.2.2.2 ⟨Nat.le_trans hfr1 hfr, Nat.le_trans hlo1 hlo⟩, hts _ hY.1, trivial⟩) ⟨fk_blind, fun U hU hW => fk_pre hK hE hP hS hU hW⟩ rfl hlen (hl.1.trans hml) rfl (lv_room hcat) hdg ⟨Nat.zero_le _, Nat.zero_le _⟩) hS
    (fun q h1 h2 => fk_A_up hS.1 q h2) (fk_A_up hS.1) (fun H1 locs1 hP1 hS1 => kk H1 locs1 ls hl hP1 hS1)
end
section
def kdCL : List Nat := [7, 9, 11, 5, 5, 5, 5, 5, 5, 5, 5, 10, 10, 10, 10, 10, 10, 10, 10, 0, 0, 0, 9, 9, 9, 9, 9, 9, 9, 9, 9, 9, 9, 9, 4, 9, 1, 9, 3, 9, 6, 6, 9, 9, 2, 9, 9, 9]
def lnCL : List Nat := [0, 8, 8, 0, 0, 0, 0, 0, 0, 0, 0, 160, 160, 160, 160, 160, 160, 160, 160, 0, 0, 0, 7, 7, 7, 7, 7, 7, 7, 7, 7, 40, 40, 40, 0, 3, 0, 20, 0, 8, 0, 0, 16, 16, 0, 7, 7, 7]
def kdML : List Nat := [8, 9, 9, 9, 9, 9, 9, 9, 10, 9, 9, 9, 9, 9, 9, 9, 9, 9, 9, 9, 9, 9]
def lnML : List Nat := [0, 7, 7, 7, 3, 40, 8, 8, 1280, 3, 67, 20, 8, 67, 8, 16, 7, 14, 7, 7, 7, 7]
def kdC (i : Nat) : Nat := kdCL.getD i 99
def lnC (i : Nat) : Nat := lnCL.getD i 0
def kdM (i : Nat) : Nat := kdML.getD i 99
def lnM (i : Nat) : Nat := lnML.getD i 0
def xEC (g : fkG) (st : fkS) (i : Nat) : va_E := match kdC i with
  | 0 => .inr (0, [.int (gI st 0 i), fk_r g (i + 3), fk_r g (i + 6), fk_r g (i + 9), fk_r g (i + 12), .int (gI st 5 i), .int (gI st 6 i), .int (gI st 7 i), .int (gI st 8 i), .int (gI st 9 i), .int (gI st 10 i)])
  | 1 => .inr (1, [fk_r g (i + 1), .int (gI st 21 i), .int (gI st 22 i), .int (gI st 23 i), .int (gI st 24 i)])
  | 2 => .inr (2, [.int (gI st 40 i), .int (gI st 41 i), fk_r g (i + 1), fk_r g (i + 2), fk_r g (i + 3)])
  | 3 => .inr (3, [fk_r g (i + 1), .int (gI st 61 i)])
  | 4 => .inr (4, [.int (gI st 80 i), .int (gI st 81 i), va_rf ((gT st).map g.1), fk_r g (i + 1)])
  | 5 => .inr (5, [.int (gI st 100 i), .int (gI st 101 i), .int (gI st 102 i), .int (gI st 103 i), fk_r g (i + 8)])
  | 6 => .inr (6, [.int (gI st 120 i), .int (gI st 121 i), .int (gI st 122 i), .int (gI st 123 i), .int (gI st 124 i), fk_r g (i + 2)])
  | 7 => .inr (7, [fk_r g 2, fk_r g 19, fk_r g 20, fk_r g 21, .int (gI st 144 i), fk_r g 34, fk_r g 36, fk_r g 38, fk_r g 40, fk_r g 41, fk_r g 44, fk_r g 1])
  | 9 => .inl (g.2.2.1.1, lnC i, .inl (gA st i))
  | 10 => .inl (g.2.2.1.2.1, lnC i, .inr (.inl (gL st i)))
  | 11 => .inl (g.2.2.1.2.2, 8, .inr (.inr (.inr (.inr (fun j => some (g.1 (3 + j)))))))
  | _ => .inl (g.2.2.1.1, 0, .inl (fun _ => 0))
def xEM (g : fkG) (st : fkS) (i : Nat) : va_E := match kdM i with
  | 8 => .inr (8, (.int (gI st 0 i) :: fk_r g 1 :: fk_r g 2 :: fk_r g 3 :: fk_r g 4 :: fk_r g 5 :: .int (gI st 6 i) :: .int (gI st 7 i) :: .int (gI st 8 i) :: fk_r g 6 :: fk_r g 7 :: fk_r g 8 :: .int (gI st 12 i) :: .int (gI st 13 i) :: fk_r g 9 :: .int (gI st 15 i) :: fk_r g 10 :: .int (gI st 17 i) :: fk_r g 11 :: fk_r g 12 :: .int (gI st 20 i) :: fk_r g 13 :: .int (gI st 22 i) :: fk_r g 14 :: .int (gI st 24 i) :: fk_r g 15 :: .int (gI st 26 i) :: .int (gI st 27 i) :: fk_r g 16 :: fk_r g 17 :: fk_r g 18 :: .int (gI st 31 i) :: fk_r g 19 :: fk_r g 20 :: fk_r g 21 :: .int (gI st 35 i) :: .int (gI st 36 i) :: []))
  | 9 => .inl (g.2.2.1.1, lnM i, .inl (gA st i))
  | 10 => .inl (g.2.2.1.2.1, lnM i, .inr (.inl (gL st i)))
  | _ => .inl (g.2.2.1.1, 0, .inl (fun _ => 0))
def wC : fkW := (xEC, 48)
def wM : fkW := (xEM, 22)
theorem kdC_lt {i : Nat} (h : kdC i ≠ 99) : i < 48 := by
  rcases Nat.lt_or_ge i 48 with h1 | h1
  · exact h1
  · exfalso
    apply h
    unfold kdC
    rw [List.getD_eq_getElem?_getD, List.getElem?_eq_none (by rw [show kdCL.length = 48 from rfl]; exact h1)]
    rfl
theorem xEC_I {g : fkG} {st : fkS} {f i j : Nat} {v : Int32} (h : j ≠ i) : xEC g (sI st f i v) j = xEC g st j := by
  simp only [xEC, gI_sI, gA_sI, gL_sI, gT_sI, h, and_false, if_false]
theorem xEC_A {g : fkG} {st : fkS} {i j : Nat} {v : Nat → Int32} (h : j ≠ i) : xEC g (sAF st i v) j = xEC g st j := by
  simp only [xEC, gI_sAF, gA_sAF, gL_sAF, gT_sAF, h, if_false]
theorem xEC_L {g : fkG} {st : fkS} {i j : Nat} {v : Nat → Int64} (h : j ≠ i) : xEC g (sLF st i v) j = xEC g st j := by
  simp only [xEC, gI_sLF, gA_sLF, gL_sLF, gT_sLF, h, if_false]
theorem kdM_lt {i : Nat} (h : kdM i ≠ 99) : i < 22 := by
  rcases Nat.lt_or_ge i 22 with h1 | h1
  · exact h1
  · exfalso
    apply h
    unfold kdM
    rw [List.getD_eq_getElem?_getD, List.getElem?_eq_none (by rw [show kdML.length = 22 from rfl]; exact h1)]
    rfl
theorem xEM_I {g : fkG} {st : fkS} {f i j : Nat} {v : Int32} (h : j ≠ i) : xEM g (sI st f i v) j = xEM g st j := by
  simp only [xEM, gI_sI, gA_sI, gL_sI, gT_sI, h, and_false, if_false]
theorem xEM_A {g : fkG} {st : fkS} {i j : Nat} {v : Nat → Int32} (h : j ≠ i) : xEM g (sAF st i v) j = xEM g st j := by
  simp only [xEM, gI_sAF, gA_sAF, gL_sAF, gT_sAF, h, if_false]
theorem xEM_L {g : fkG} {st : fkS} {i j : Nat} {v : Nat → Int64} (h : j ≠ i) : xEM g (sLF st i v) j = xEM g st j := by
  simp only [xEM, gI_sLF, gA_sLF, gL_sLF, gT_sLF, h, if_false]
theorem kdC_4 : ∀ j, kdC j = 4 → j = 34 := by
  intro j h
  have h1 : j < 48 := kdC_lt (by rw [h]; decide)
  exact (show ∀ j, j < 48 → kdC j = 4 → j = 34 from by decide +kernel) j h1 h
theorem xEC_T {g : fkG} {st : fkS} {j : Nat} {t : Option Nat} (h : j ≠ 34) : xEC g (sT st t) j = xEC g st j := by
  have h4 : kdC j ≠ 4 := fun q => h (kdC_4 j q)
  unfold xEC
  split <;> first | rfl | (rename_i q; exact absurd q h4)
theorem at_0 {g : fkG} {st : fkS} {i : Nat} (h : kdC i = 0) : xEC g st i = .inr (0, [.int (gI st 0 i), fk_r g (i + 3), fk_r g (i + 6), fk_r g (i + 9), fk_r g (i + 12), .int (gI st 5 i), .int (gI st 6 i), .int (gI st 7 i), .int (gI st 8 i), .int (gI st 9 i), .int (gI st 10 i)]) := by
  unfold xEC
  rw [h]
  first | done | rfl
theorem wat_0 {g : fkG} {st : fkS} {i : Nat} (h : kdC i = 0) : (fk_ws wC g st)[i]? = some (g.1 i, .inr (0, [.int (gI st 0 i), fk_r g (i + 3), fk_r g (i + 6), fk_r g (i + 9), fk_r g (i + 12), .int (gI st 5 i), .int (gI st 6 i), .int (gI st 7 i), .int (gI st 8 i), .int (gI st 9 i), .int (gI st 10 i)])) := by
  rw [fk_wat (w := wC) (kdC_lt (by rw [h]; decide))]
  show some (g.1 i, xEC g st i) = _
  rw [at_0 h]
theorem rcv_0 {g : fkG} {i : Nat} (h : kdC i = 0) : fk_rcv wC g i RX0 := by
  refine ⟨kdC_lt (by rw [h]; decide), fun st => ⟨0, _, _, at_0 h, rfl, rfl⟩⟩
theorem wB_0 : ∀ w ∈ u_ws RX0 TX0 11, w ∈ fkB := fun w h => fkB_in ((show ∀ w ∈ u_ws RX0 TX0 11, w ∈ lw_tbl from by decide +kernel) w h) (List.all_eq_true.mp (show (u_ws RX0 TX0 11).all goodWord = true from by decide +kernel) w h)
theorem wst_0_0 {g : fkG} {st : fkS} {i : Nat} {v : Int32} (h : kdC i = 0) : (fk_ws wC g st).set i (g.1 i, .inr (0, [.int v, fk_r g (i + 3), fk_r g (i + 6), fk_r g (i + 9), fk_r g (i + 12), .int (gI st 5 i), .int (gI st 6 i), .int (gI st 7 i), .int (gI st 8 i), .int (gI st 9 i), .int (gI st 10 i)])) = fk_ws wC g (sI st 0 i v) := by
  refine fk_wset (w := wC) (kdC_lt (by rw [h]; decide)) (fun j _ hj => xEC_I hj) ?_
  show xEC g (sI st 0 i v) i = _
  rw [at_0 h]
  simp [gI_sI, gT_sI]
theorem wst_0_5 {g : fkG} {st : fkS} {i : Nat} {v : Int32} (h : kdC i = 0) : (fk_ws wC g st).set i (g.1 i, .inr (0, [.int (gI st 0 i), fk_r g (i + 3), fk_r g (i + 6), fk_r g (i + 9), fk_r g (i + 12), .int v, .int (gI st 6 i), .int (gI st 7 i), .int (gI st 8 i), .int (gI st 9 i), .int (gI st 10 i)])) = fk_ws wC g (sI st 5 i v) := by
  refine fk_wset (w := wC) (kdC_lt (by rw [h]; decide)) (fun j _ hj => xEC_I hj) ?_
  show xEC g (sI st 5 i v) i = _
  rw [at_0 h]
  simp [gI_sI, gT_sI]
theorem wst_0_6 {g : fkG} {st : fkS} {i : Nat} {v : Int32} (h : kdC i = 0) : (fk_ws wC g st).set i (g.1 i, .inr (0, [.int (gI st 0 i), fk_r g (i + 3), fk_r g (i + 6), fk_r g (i + 9), fk_r g (i + 12), .int (gI st 5 i), .int v, .int (gI st 7 i), .int (gI st 8 i), .int (gI st 9 i), .int (gI st 10 i)])) = fk_ws wC g (sI st 6 i v) := by
  refine fk_wset (w := wC) (kdC_lt (by rw [h]; decide)) (fun j _ hj => xEC_I hj) ?_
  show xEC g (sI st 6 i v) i = _
  rw [at_0 h]
  simp [gI_sI, gT_sI]
theorem wst_0_7 {g : fkG} {st : fkS} {i : Nat} {v : Int32} (h : kdC i = 0) : (fk_ws wC g st).set i (g.1 i, .inr (0, [.int (gI st 0 i), fk_r g (i + 3), fk_r g (i + 6), fk_r g (i + 9), fk_r g (i + 12), .int (gI st 5 i), .int (gI st 6 i), .int v, .int (gI st 8 i), .int (gI st 9 i), .int (gI st 10 i)])) = fk_ws wC g (sI st 7 i v) := by
  refine fk_wset (w := wC) (kdC_lt (by rw [h]; decide)) (fun j _ hj => xEC_I hj) ?_
  show xEC g (sI st 7 i v) i = _
  rw [at_0 h]
  simp [gI_sI, gT_sI]
theorem wst_0_8 {g : fkG} {st : fkS} {i : Nat} {v : Int32} (h : kdC i = 0) : (fk_ws wC g st).set i (g.1 i, .inr (0, [.int (gI st 0 i), fk_r g (i + 3), fk_r g (i + 6), fk_r g (i + 9), fk_r g (i + 12), .int (gI st 5 i), .int (gI st 6 i), .int (gI st 7 i), .int v, .int (gI st 9 i), .int (gI st 10 i)])) = fk_ws wC g (sI st 8 i v) := by
  refine fk_wset (w := wC) (kdC_lt (by rw [h]; decide)) (fun j _ hj => xEC_I hj) ?_
  show xEC g (sI st 8 i v) i = _
  rw [at_0 h]
  simp [gI_sI, gT_sI]
theorem wst_0_9 {g : fkG} {st : fkS} {i : Nat} {v : Int32} (h : kdC i = 0) : (fk_ws wC g st).set i (g.1 i, .inr (0, [.int (gI st 0 i), fk_r g (i + 3), fk_r g (i + 6), fk_r g (i + 9), fk_r g (i + 12), .int (gI st 5 i), .int (gI st 6 i), .int (gI st 7 i), .int (gI st 8 i), .int v, .int (gI st 10 i)])) = fk_ws wC g (sI st 9 i v) := by
  refine fk_wset (w := wC) (kdC_lt (by rw [h]; decide)) (fun j _ hj => xEC_I hj) ?_
  show xEC g (sI st 9 i v) i = _
  rw [at_0 h]
  simp [gI_sI, gT_sI]
theorem wst_0_10 {g : fkG} {st : fkS} {i : Nat} {v : Int32} (h : kdC i = 0) : (fk_ws wC g st).set i (g.1 i, .inr (0, [.int (gI st 0 i), fk_r g (i + 3), fk_r g (i + 6), fk_r g (i + 9), fk_r g (i + 12), .int (gI st 5 i), .int (gI st 6 i), .int (gI st 7 i), .int (gI st 8 i), .int (gI st 9 i), .int v])) = fk_ws wC g (sI st 10 i v) := by
  refine fk_wset (w := wC) (kdC_lt (by rw [h]; decide)) (fun j _ hj => xEC_I hj) ?_
  show xEC g (sI st 10 i v) i = _
  rw [at_0 h]
  simp [gI_sI, gT_sI]
theorem at_1 {g : fkG} {st : fkS} {i : Nat} (h : kdC i = 1) : xEC g st i = .inr (1, [fk_r g (i + 1), .int (gI st 21 i), .int (gI st 22 i), .int (gI st 23 i), .int (gI st 24 i)]) := by
  unfold xEC
  rw [h]
  first | done | rfl
theorem wat_1 {g : fkG} {st : fkS} {i : Nat} (h : kdC i = 1) : (fk_ws wC g st)[i]? = some (g.1 i, .inr (1, [fk_r g (i + 1), .int (gI st 21 i), .int (gI st 22 i), .int (gI st 23 i), .int (gI st 24 i)])) := by
  rw [fk_wat (w := wC) (kdC_lt (by rw [h]; decide))]
  show some (g.1 i, xEC g st i) = _
  rw [at_1 h]
theorem rcv_1 {g : fkG} {i : Nat} (h : kdC i = 1) : fk_rcv wC g i RX1 := by
  refine ⟨kdC_lt (by rw [h]; decide), fun st => ⟨1, _, _, at_1 h, rfl, rfl⟩⟩
theorem wB_1 : ∀ w ∈ u_ws RX1 TX1 5, w ∈ fkB := fun w h => fkB_in ((show ∀ w ∈ u_ws RX1 TX1 5, w ∈ lw_tbl from by decide +kernel) w h) (List.all_eq_true.mp (show (u_ws RX1 TX1 5).all goodWord = true from by decide +kernel) w h)
theorem wst_1_1 {g : fkG} {st : fkS} {i : Nat} {v : Int32} (h : kdC i = 1) : (fk_ws wC g st).set i (g.1 i, .inr (1, [fk_r g (i + 1), .int v, .int (gI st 22 i), .int (gI st 23 i), .int (gI st 24 i)])) = fk_ws wC g (sI st 21 i v) := by
  refine fk_wset (w := wC) (kdC_lt (by rw [h]; decide)) (fun j _ hj => xEC_I hj) ?_
  show xEC g (sI st 21 i v) i = _
  rw [at_1 h]
  simp [gI_sI, gT_sI]
theorem wst_1_2 {g : fkG} {st : fkS} {i : Nat} {v : Int32} (h : kdC i = 1) : (fk_ws wC g st).set i (g.1 i, .inr (1, [fk_r g (i + 1), .int (gI st 21 i), .int v, .int (gI st 23 i), .int (gI st 24 i)])) = fk_ws wC g (sI st 22 i v) := by
  refine fk_wset (w := wC) (kdC_lt (by rw [h]; decide)) (fun j _ hj => xEC_I hj) ?_
  show xEC g (sI st 22 i v) i = _
  rw [at_1 h]
  simp [gI_sI, gT_sI]
theorem wst_1_3 {g : fkG} {st : fkS} {i : Nat} {v : Int32} (h : kdC i = 1) : (fk_ws wC g st).set i (g.1 i, .inr (1, [fk_r g (i + 1), .int (gI st 21 i), .int (gI st 22 i), .int v, .int (gI st 24 i)])) = fk_ws wC g (sI st 23 i v) := by
  refine fk_wset (w := wC) (kdC_lt (by rw [h]; decide)) (fun j _ hj => xEC_I hj) ?_
  show xEC g (sI st 23 i v) i = _
  rw [at_1 h]
  simp [gI_sI, gT_sI]
theorem wst_1_4 {g : fkG} {st : fkS} {i : Nat} {v : Int32} (h : kdC i = 1) : (fk_ws wC g st).set i (g.1 i, .inr (1, [fk_r g (i + 1), .int (gI st 21 i), .int (gI st 22 i), .int (gI st 23 i), .int v])) = fk_ws wC g (sI st 24 i v) := by
  refine fk_wset (w := wC) (kdC_lt (by rw [h]; decide)) (fun j _ hj => xEC_I hj) ?_
  show xEC g (sI st 24 i v) i = _
  rw [at_1 h]
  simp [gI_sI, gT_sI]
theorem at_2 {g : fkG} {st : fkS} {i : Nat} (h : kdC i = 2) : xEC g st i = .inr (2, [.int (gI st 40 i), .int (gI st 41 i), fk_r g (i + 1), fk_r g (i + 2), fk_r g (i + 3)]) := by
  unfold xEC
  rw [h]
  first | done | rfl
theorem wat_2 {g : fkG} {st : fkS} {i : Nat} (h : kdC i = 2) : (fk_ws wC g st)[i]? = some (g.1 i, .inr (2, [.int (gI st 40 i), .int (gI st 41 i), fk_r g (i + 1), fk_r g (i + 2), fk_r g (i + 3)])) := by
  rw [fk_wat (w := wC) (kdC_lt (by rw [h]; decide))]
  show some (g.1 i, xEC g st i) = _
  rw [at_2 h]
theorem rcv_2 {g : fkG} {i : Nat} (h : kdC i = 2) : fk_rcv wC g i RX2 := by
  refine ⟨kdC_lt (by rw [h]; decide), fun st => ⟨2, _, _, at_2 h, rfl, rfl⟩⟩
theorem wB_2 : ∀ w ∈ u_ws RX2 TX2 5, w ∈ fkB := fun w h => fkB_in ((show ∀ w ∈ u_ws RX2 TX2 5, w ∈ lw_tbl from by decide +kernel) w h) (List.all_eq_true.mp (show (u_ws RX2 TX2 5).all goodWord = true from by decide +kernel) w h)
theorem wst_2_0 {g : fkG} {st : fkS} {i : Nat} {v : Int32} (h : kdC i = 2) : (fk_ws wC g st).set i (g.1 i, .inr (2, [.int v, .int (gI st 41 i), fk_r g (i + 1), fk_r g (i + 2), fk_r g (i + 3)])) = fk_ws wC g (sI st 40 i v) := by
  refine fk_wset (w := wC) (kdC_lt (by rw [h]; decide)) (fun j _ hj => xEC_I hj) ?_
  show xEC g (sI st 40 i v) i = _
  rw [at_2 h]
  simp [gI_sI, gT_sI]
theorem wst_2_1 {g : fkG} {st : fkS} {i : Nat} {v : Int32} (h : kdC i = 2) : (fk_ws wC g st).set i (g.1 i, .inr (2, [.int (gI st 40 i), .int v, fk_r g (i + 1), fk_r g (i + 2), fk_r g (i + 3)])) = fk_ws wC g (sI st 41 i v) := by
  refine fk_wset (w := wC) (kdC_lt (by rw [h]; decide)) (fun j _ hj => xEC_I hj) ?_
  show xEC g (sI st 41 i v) i = _
  rw [at_2 h]
  simp [gI_sI, gT_sI]
theorem at_3 {g : fkG} {st : fkS} {i : Nat} (h : kdC i = 3) : xEC g st i = .inr (3, [fk_r g (i + 1), .int (gI st 61 i)]) := by
  unfold xEC
  rw [h]
  first | done | rfl
theorem wat_3 {g : fkG} {st : fkS} {i : Nat} (h : kdC i = 3) : (fk_ws wC g st)[i]? = some (g.1 i, .inr (3, [fk_r g (i + 1), .int (gI st 61 i)])) := by
  rw [fk_wat (w := wC) (kdC_lt (by rw [h]; decide))]
  show some (g.1 i, xEC g st i) = _
  rw [at_3 h]
theorem rcv_3 {g : fkG} {i : Nat} (h : kdC i = 3) : fk_rcv wC g i RX3 := by
  refine ⟨kdC_lt (by rw [h]; decide), fun st => ⟨3, _, _, at_3 h, rfl, rfl⟩⟩
theorem wB_3 : ∀ w ∈ u_ws RX3 TX3 2, w ∈ fkB := fun w h => fkB_in ((show ∀ w ∈ u_ws RX3 TX3 2, w ∈ lw_tbl from by decide +kernel) w h) (List.all_eq_true.mp (show (u_ws RX3 TX3 2).all goodWord = true from by decide +kernel) w h)
theorem wst_3_1 {g : fkG} {st : fkS} {i : Nat} {v : Int32} (h : kdC i = 3) : (fk_ws wC g st).set i (g.1 i, .inr (3, [fk_r g (i + 1), .int v])) = fk_ws wC g (sI st 61 i v) := by
  refine fk_wset (w := wC) (kdC_lt (by rw [h]; decide)) (fun j _ hj => xEC_I hj) ?_
  show xEC g (sI st 61 i v) i = _
  rw [at_3 h]
  simp [gI_sI, gT_sI]
theorem at_4 {g : fkG} {st : fkS} {i : Nat} (h : kdC i = 4) : xEC g st i = .inr (4, [.int (gI st 80 i), .int (gI st 81 i), va_rf ((gT st).map g.1), fk_r g (i + 1)]) := by
  unfold xEC
  rw [h]
  first | done | rfl
theorem wat_4 {g : fkG} {st : fkS} {i : Nat} (h : kdC i = 4) : (fk_ws wC g st)[i]? = some (g.1 i, .inr (4, [.int (gI st 80 i), .int (gI st 81 i), va_rf ((gT st).map g.1), fk_r g (i + 1)])) := by
  rw [fk_wat (w := wC) (kdC_lt (by rw [h]; decide))]
  show some (g.1 i, xEC g st i) = _
  rw [at_4 h]
theorem rcv_4 {g : fkG} {i : Nat} (h : kdC i = 4) : fk_rcv wC g i RX4 := by
  refine ⟨kdC_lt (by rw [h]; decide), fun st => ⟨4, _, _, at_4 h, rfl, rfl⟩⟩
theorem wB_4 : ∀ w ∈ u_ws RX4 TX4 4, w ∈ fkB := fun w h => fkB_in ((show ∀ w ∈ u_ws RX4 TX4 4, w ∈ lw_tbl from by decide +kernel) w h) (List.all_eq_true.mp (show (u_ws RX4 TX4 4).all goodWord = true from by decide +kernel) w h)
theorem wst_4_0 {g : fkG} {st : fkS} {i : Nat} {v : Int32} (h : kdC i = 4) : (fk_ws wC g st).set i (g.1 i, .inr (4, [.int v, .int (gI st 81 i), va_rf ((gT st).map g.1), fk_r g (i + 1)])) = fk_ws wC g (sI st 80 i v) := by
  refine fk_wset (w := wC) (kdC_lt (by rw [h]; decide)) (fun j _ hj => xEC_I hj) ?_
  show xEC g (sI st 80 i v) i = _
  rw [at_4 h]
  simp [gI_sI, gT_sI]
theorem wst_4_1 {g : fkG} {st : fkS} {i : Nat} {v : Int32} (h : kdC i = 4) : (fk_ws wC g st).set i (g.1 i, .inr (4, [.int (gI st 80 i), .int v, va_rf ((gT st).map g.1), fk_r g (i + 1)])) = fk_ws wC g (sI st 81 i v) := by
  refine fk_wset (w := wC) (kdC_lt (by rw [h]; decide)) (fun j _ hj => xEC_I hj) ?_
  show xEC g (sI st 81 i v) i = _
  rw [at_4 h]
  simp [gI_sI, gT_sI]
theorem at_5 {g : fkG} {st : fkS} {i : Nat} (h : kdC i = 5) : xEC g st i = .inr (5, [.int (gI st 100 i), .int (gI st 101 i), .int (gI st 102 i), .int (gI st 103 i), fk_r g (i + 8)]) := by
  unfold xEC
  rw [h]
  first | done | rfl
theorem wat_5 {g : fkG} {st : fkS} {i : Nat} (h : kdC i = 5) : (fk_ws wC g st)[i]? = some (g.1 i, .inr (5, [.int (gI st 100 i), .int (gI st 101 i), .int (gI st 102 i), .int (gI st 103 i), fk_r g (i + 8)])) := by
  rw [fk_wat (w := wC) (kdC_lt (by rw [h]; decide))]
  show some (g.1 i, xEC g st i) = _
  rw [at_5 h]
theorem rcv_5 {g : fkG} {i : Nat} (h : kdC i = 5) : fk_rcv wC g i RX5 := by
  refine ⟨kdC_lt (by rw [h]; decide), fun st => ⟨5, _, _, at_5 h, rfl, rfl⟩⟩
theorem wB_5 : ∀ w ∈ u_ws RX5 TX5 5, w ∈ fkB := fun w h => fkB_in ((show ∀ w ∈ u_ws RX5 TX5 5, w ∈ lw_tbl from by decide +kernel) w h) (List.all_eq_true.mp (show (u_ws RX5 TX5 5).all goodWord = true from by decide +kernel) w h)
theorem wst_5_0 {g : fkG} {st : fkS} {i : Nat} {v : Int32} (h : kdC i = 5) : (fk_ws wC g st).set i (g.1 i, .inr (5, [.int v, .int (gI st 101 i), .int (gI st 102 i), .int (gI st 103 i), fk_r g (i + 8)])) = fk_ws wC g (sI st 100 i v) := by
  refine fk_wset (w := wC) (kdC_lt (by rw [h]; decide)) (fun j _ hj => xEC_I hj) ?_
  show xEC g (sI st 100 i v) i = _
  rw [at_5 h]
  simp [gI_sI, gT_sI]
theorem wst_5_1 {g : fkG} {st : fkS} {i : Nat} {v : Int32} (h : kdC i = 5) : (fk_ws wC g st).set i (g.1 i, .inr (5, [.int (gI st 100 i), .int v, .int (gI st 102 i), .int (gI st 103 i), fk_r g (i + 8)])) = fk_ws wC g (sI st 101 i v) := by
  refine fk_wset (w := wC) (kdC_lt (by rw [h]; decide)) (fun j _ hj => xEC_I hj) ?_
  show xEC g (sI st 101 i v) i = _
  rw [at_5 h]
  simp [gI_sI, gT_sI]
theorem wst_5_2 {g : fkG} {st : fkS} {i : Nat} {v : Int32} (h : kdC i = 5) : (fk_ws wC g st).set i (g.1 i, .inr (5, [.int (gI st 100 i), .int (gI st 101 i), .int v, .int (gI st 103 i), fk_r g (i + 8)])) = fk_ws wC g (sI st 102 i v) := by
  refine fk_wset (w := wC) (kdC_lt (by rw [h]; decide)) (fun j _ hj => xEC_I hj) ?_
  show xEC g (sI st 102 i v) i = _
  rw [at_5 h]
  simp [gI_sI, gT_sI]
theorem wst_5_3 {g : fkG} {st : fkS} {i : Nat} {v : Int32} (h : kdC i = 5) : (fk_ws wC g st).set i (g.1 i, .inr (5, [.int (gI st 100 i), .int (gI st 101 i), .int (gI st 102 i), .int v, fk_r g (i + 8)])) = fk_ws wC g (sI st 103 i v) := by
  refine fk_wset (w := wC) (kdC_lt (by rw [h]; decide)) (fun j _ hj => xEC_I hj) ?_
  show xEC g (sI st 103 i v) i = _
  rw [at_5 h]
  simp [gI_sI, gT_sI]
theorem at_6 {g : fkG} {st : fkS} {i : Nat} (h : kdC i = 6) : xEC g st i = .inr (6, [.int (gI st 120 i), .int (gI st 121 i), .int (gI st 122 i), .int (gI st 123 i), .int (gI st 124 i), fk_r g (i + 2)]) := by
  unfold xEC
  rw [h]
  first | done | rfl
theorem wat_6 {g : fkG} {st : fkS} {i : Nat} (h : kdC i = 6) : (fk_ws wC g st)[i]? = some (g.1 i, .inr (6, [.int (gI st 120 i), .int (gI st 121 i), .int (gI st 122 i), .int (gI st 123 i), .int (gI st 124 i), fk_r g (i + 2)])) := by
  rw [fk_wat (w := wC) (kdC_lt (by rw [h]; decide))]
  show some (g.1 i, xEC g st i) = _
  rw [at_6 h]
theorem rcv_6 {g : fkG} {i : Nat} (h : kdC i = 6) : fk_rcv wC g i RX6 := by
  refine ⟨kdC_lt (by rw [h]; decide), fun st => ⟨6, _, _, at_6 h, rfl, rfl⟩⟩
theorem wB_6 : ∀ w ∈ u_ws RX6 TX6 6, w ∈ fkB := fun w h => fkB_in ((show ∀ w ∈ u_ws RX6 TX6 6, w ∈ lw_tbl from by decide +kernel) w h) (List.all_eq_true.mp (show (u_ws RX6 TX6 6).all goodWord = true from by decide +kernel) w h)
theorem wst_6_0 {g : fkG} {st : fkS} {i : Nat} {v : Int32} (h : kdC i = 6) : (fk_ws wC g st).set i (g.1 i, .inr (6, [.int v, .int (gI st 121 i), .int (gI st 122 i), .int (gI st 123 i), .int (gI st 124 i), fk_r g (i + 2)])) = fk_ws wC g (sI st 120 i v) := by
  refine fk_wset (w := wC) (kdC_lt (by rw [h]; decide)) (fun j _ hj => xEC_I hj) ?_
  show xEC g (sI st 120 i v) i = _
  rw [at_6 h]
  simp [gI_sI, gT_sI]
theorem wst_6_1 {g : fkG} {st : fkS} {i : Nat} {v : Int32} (h : kdC i = 6) : (fk_ws wC g st).set i (g.1 i, .inr (6, [.int (gI st 120 i), .int v, .int (gI st 122 i), .int (gI st 123 i), .int (gI st 124 i), fk_r g (i + 2)])) = fk_ws wC g (sI st 121 i v) := by
  refine fk_wset (w := wC) (kdC_lt (by rw [h]; decide)) (fun j _ hj => xEC_I hj) ?_
  show xEC g (sI st 121 i v) i = _
  rw [at_6 h]
  simp [gI_sI, gT_sI]
theorem wst_6_2 {g : fkG} {st : fkS} {i : Nat} {v : Int32} (h : kdC i = 6) : (fk_ws wC g st).set i (g.1 i, .inr (6, [.int (gI st 120 i), .int (gI st 121 i), .int v, .int (gI st 123 i), .int (gI st 124 i), fk_r g (i + 2)])) = fk_ws wC g (sI st 122 i v) := by
  refine fk_wset (w := wC) (kdC_lt (by rw [h]; decide)) (fun j _ hj => xEC_I hj) ?_
  show xEC g (sI st 122 i v) i = _
  rw [at_6 h]
  simp [gI_sI, gT_sI]
theorem wst_6_3 {g : fkG} {st : fkS} {i : Nat} {v : Int32} (h : kdC i = 6) : (fk_ws wC g st).set i (g.1 i, .inr (6, [.int (gI st 120 i), .int (gI st 121 i), .int (gI st 122 i), .int v, .int (gI st 124 i), fk_r g (i + 2)])) = fk_ws wC g (sI st 123 i v) := by
  refine fk_wset (w := wC) (kdC_lt (by rw [h]; decide)) (fun j _ hj => xEC_I hj) ?_
  show xEC g (sI st 123 i v) i = _
  rw [at_6 h]
  simp [gI_sI, gT_sI]
theorem wst_6_4 {g : fkG} {st : fkS} {i : Nat} {v : Int32} (h : kdC i = 6) : (fk_ws wC g st).set i (g.1 i, .inr (6, [.int (gI st 120 i), .int (gI st 121 i), .int (gI st 122 i), .int (gI st 123 i), .int v, fk_r g (i + 2)])) = fk_ws wC g (sI st 124 i v) := by
  refine fk_wset (w := wC) (kdC_lt (by rw [h]; decide)) (fun j _ hj => xEC_I hj) ?_
  show xEC g (sI st 124 i v) i = _
  rw [at_6 h]
  simp [gI_sI, gT_sI]
theorem at_7 {g : fkG} {st : fkS} {i : Nat} (h : kdC i = 7) : xEC g st i = .inr (7, [fk_r g 2, fk_r g 19, fk_r g 20, fk_r g 21, .int (gI st 144 i), fk_r g 34, fk_r g 36, fk_r g 38, fk_r g 40, fk_r g 41, fk_r g 44, fk_r g 1]) := by
  unfold xEC
  rw [h]
  first | done | rfl
theorem wat_7 {g : fkG} {st : fkS} {i : Nat} (h : kdC i = 7) : (fk_ws wC g st)[i]? = some (g.1 i, .inr (7, [fk_r g 2, fk_r g 19, fk_r g 20, fk_r g 21, .int (gI st 144 i), fk_r g 34, fk_r g 36, fk_r g 38, fk_r g 40, fk_r g 41, fk_r g 44, fk_r g 1])) := by
  rw [fk_wat (w := wC) (kdC_lt (by rw [h]; decide))]
  show some (g.1 i, xEC g st i) = _
  rw [at_7 h]
theorem rcv_7 {g : fkG} {i : Nat} (h : kdC i = 7) : fk_rcv wC g i RX7 := by
  refine ⟨kdC_lt (by rw [h]; decide), fun st => ⟨7, _, _, at_7 h, rfl, rfl⟩⟩
theorem wB_7 : ∀ w ∈ u_ws RX7 TX7 12, w ∈ fkB := fun w h => fkB_in ((show ∀ w ∈ u_ws RX7 TX7 12, w ∈ lw_tbl from by decide +kernel) w h) (List.all_eq_true.mp (show (u_ws RX7 TX7 12).all goodWord = true from by decide +kernel) w h)
theorem wst_7_4 {g : fkG} {st : fkS} {i : Nat} {v : Int32} (h : kdC i = 7) : (fk_ws wC g st).set i (g.1 i, .inr (7, [fk_r g 2, fk_r g 19, fk_r g 20, fk_r g 21, .int v, fk_r g 34, fk_r g 36, fk_r g 38, fk_r g 40, fk_r g 41, fk_r g 44, fk_r g 1])) = fk_ws wC g (sI st 144 i v) := by
  refine fk_wset (w := wC) (kdC_lt (by rw [h]; decide)) (fun j _ hj => xEC_I hj) ?_
  show xEC g (sI st 144 i v) i = _
  rw [at_7 h]
  simp [gI_sI, gT_sI]
theorem at_8 {g : fkG} {st : fkS} {i : Nat} (h : kdM i = 8) : xEM g st i = .inr (8, (.int (gI st 0 i) :: fk_r g 1 :: fk_r g 2 :: fk_r g 3 :: fk_r g 4 :: fk_r g 5 :: .int (gI st 6 i) :: .int (gI st 7 i) :: .int (gI st 8 i) :: fk_r g 6 :: fk_r g 7 :: fk_r g 8 :: .int (gI st 12 i) :: .int (gI st 13 i) :: fk_r g 9 :: .int (gI st 15 i) :: fk_r g 10 :: .int (gI st 17 i) :: fk_r g 11 :: fk_r g 12 :: .int (gI st 20 i) :: fk_r g 13 :: .int (gI st 22 i) :: fk_r g 14 :: .int (gI st 24 i) :: fk_r g 15 :: .int (gI st 26 i) :: .int (gI st 27 i) :: fk_r g 16 :: fk_r g 17 :: fk_r g 18 :: .int (gI st 31 i) :: fk_r g 19 :: fk_r g 20 :: fk_r g 21 :: .int (gI st 35 i) :: .int (gI st 36 i) :: [])) := by
  unfold xEM
  rw [h]
  first | done | rfl
theorem wat_8 {g : fkG} {st : fkS} {i : Nat} (h : kdM i = 8) : (fk_ws wM g st)[i]? = some (g.1 i, .inr (8, (.int (gI st 0 i) :: fk_r g 1 :: fk_r g 2 :: fk_r g 3 :: fk_r g 4 :: fk_r g 5 :: .int (gI st 6 i) :: .int (gI st 7 i) :: .int (gI st 8 i) :: fk_r g 6 :: fk_r g 7 :: fk_r g 8 :: .int (gI st 12 i) :: .int (gI st 13 i) :: fk_r g 9 :: .int (gI st 15 i) :: fk_r g 10 :: .int (gI st 17 i) :: fk_r g 11 :: fk_r g 12 :: .int (gI st 20 i) :: fk_r g 13 :: .int (gI st 22 i) :: fk_r g 14 :: .int (gI st 24 i) :: fk_r g 15 :: .int (gI st 26 i) :: .int (gI st 27 i) :: fk_r g 16 :: fk_r g 17 :: fk_r g 18 :: .int (gI st 31 i) :: fk_r g 19 :: fk_r g 20 :: fk_r g 21 :: .int (gI st 35 i) :: .int (gI st 36 i) :: []))) := by
  rw [fk_wat (w := wM) (kdM_lt (by rw [h]; decide))]
  show some (g.1 i, xEM g st i) = _
  rw [at_8 h]
theorem rcv_8 {g : fkG} {i : Nat} (h : kdM i = 8) : fk_rcv wM g i RX8 := by
  refine ⟨kdM_lt (by rw [h]; decide), fun st => ⟨8, _, _, at_8 h, rfl, rfl⟩⟩
theorem wB_8 : ∀ w ∈ u_ws RX8 TX8 37, w ∈ fkB := fun w h => fkB_in ((show ∀ w ∈ u_ws RX8 TX8 37, w ∈ lw_tbl from by decide +kernel) w h) (List.all_eq_true.mp (show (u_ws RX8 TX8 37).all goodWord = true from by decide +kernel) w h)
theorem wst_8_0 {g : fkG} {st : fkS} {i : Nat} {v : Int32} (h : kdM i = 8) : (fk_ws wM g st).set i (g.1 i, .inr (8, (.int v :: fk_r g 1 :: fk_r g 2 :: fk_r g 3 :: fk_r g 4 :: fk_r g 5 :: .int (gI st 6 i) :: .int (gI st 7 i) :: .int (gI st 8 i) :: fk_r g 6 :: fk_r g 7 :: fk_r g 8 :: .int (gI st 12 i) :: .int (gI st 13 i) :: fk_r g 9 :: .int (gI st 15 i) :: fk_r g 10 :: .int (gI st 17 i) :: fk_r g 11 :: fk_r g 12 :: .int (gI st 20 i) :: fk_r g 13 :: .int (gI st 22 i) :: fk_r g 14 :: .int (gI st 24 i) :: fk_r g 15 :: .int (gI st 26 i) :: .int (gI st 27 i) :: fk_r g 16 :: fk_r g 17 :: fk_r g 18 :: .int (gI st 31 i) :: fk_r g 19 :: fk_r g 20 :: fk_r g 21 :: .int (gI st 35 i) :: .int (gI st 36 i) :: []))) = fk_ws wM g (sI st 0 i v) := by
  refine fk_wset (w := wM) (kdM_lt (by rw [h]; decide)) (fun j _ hj => xEM_I hj) ?_
  show xEM g (sI st 0 i v) i = _
  rw [at_8 h]
  simp [gI_sI, gT_sI]
theorem wst_8_6 {g : fkG} {st : fkS} {i : Nat} {v : Int32} (h : kdM i = 8) : (fk_ws wM g st).set i (g.1 i, .inr (8, (.int (gI st 0 i) :: fk_r g 1 :: fk_r g 2 :: fk_r g 3 :: fk_r g 4 :: fk_r g 5 :: .int v :: .int (gI st 7 i) :: .int (gI st 8 i) :: fk_r g 6 :: fk_r g 7 :: fk_r g 8 :: .int (gI st 12 i) :: .int (gI st 13 i) :: fk_r g 9 :: .int (gI st 15 i) :: fk_r g 10 :: .int (gI st 17 i) :: fk_r g 11 :: fk_r g 12 :: .int (gI st 20 i) :: fk_r g 13 :: .int (gI st 22 i) :: fk_r g 14 :: .int (gI st 24 i) :: fk_r g 15 :: .int (gI st 26 i) :: .int (gI st 27 i) :: fk_r g 16 :: fk_r g 17 :: fk_r g 18 :: .int (gI st 31 i) :: fk_r g 19 :: fk_r g 20 :: fk_r g 21 :: .int (gI st 35 i) :: .int (gI st 36 i) :: []))) = fk_ws wM g (sI st 6 i v) := by
  refine fk_wset (w := wM) (kdM_lt (by rw [h]; decide)) (fun j _ hj => xEM_I hj) ?_
  show xEM g (sI st 6 i v) i = _
  rw [at_8 h]
  simp [gI_sI, gT_sI]
theorem wst_8_7 {g : fkG} {st : fkS} {i : Nat} {v : Int32} (h : kdM i = 8) : (fk_ws wM g st).set i (g.1 i, .inr (8, (.int (gI st 0 i) :: fk_r g 1 :: fk_r g 2 :: fk_r g 3 :: fk_r g 4 :: fk_r g 5 :: .int (gI st 6 i) :: .int v :: .int (gI st 8 i) :: fk_r g 6 :: fk_r g 7 :: fk_r g 8 :: .int (gI st 12 i) :: .int (gI st 13 i) :: fk_r g 9 :: .int (gI st 15 i) :: fk_r g 10 :: .int (gI st 17 i) :: fk_r g 11 :: fk_r g 12 :: .int (gI st 20 i) :: fk_r g 13 :: .int (gI st 22 i) :: fk_r g 14 :: .int (gI st 24 i) :: fk_r g 15 :: .int (gI st 26 i) :: .int (gI st 27 i) :: fk_r g 16 :: fk_r g 17 :: fk_r g 18 :: .int (gI st 31 i) :: fk_r g 19 :: fk_r g 20 :: fk_r g 21 :: .int (gI st 35 i) :: .int (gI st 36 i) :: []))) = fk_ws wM g (sI st 7 i v) := by
  refine fk_wset (w := wM) (kdM_lt (by rw [h]; decide)) (fun j _ hj => xEM_I hj) ?_
  show xEM g (sI st 7 i v) i = _
  rw [at_8 h]
  simp [gI_sI, gT_sI]
theorem wst_8_8 {g : fkG} {st : fkS} {i : Nat} {v : Int32} (h : kdM i = 8) : (fk_ws wM g st).set i (g.1 i, .inr (8, (.int (gI st 0 i) :: fk_r g 1 :: fk_r g 2 :: fk_r g 3 :: fk_r g 4 :: fk_r g 5 :: .int (gI st 6 i) :: .int (gI st 7 i) :: .int v :: fk_r g 6 :: fk_r g 7 :: fk_r g 8 :: .int (gI st 12 i) :: .int (gI st 13 i) :: fk_r g 9 :: .int (gI st 15 i) :: fk_r g 10 :: .int (gI st 17 i) :: fk_r g 11 :: fk_r g 12 :: .int (gI st 20 i) :: fk_r g 13 :: .int (gI st 22 i) :: fk_r g 14 :: .int (gI st 24 i) :: fk_r g 15 :: .int (gI st 26 i) :: .int (gI st 27 i) :: fk_r g 16 :: fk_r g 17 :: fk_r g 18 :: .int (gI st 31 i) :: fk_r g 19 :: fk_r g 20 :: fk_r g 21 :: .int (gI st 35 i) :: .int (gI st 36 i) :: []))) = fk_ws wM g (sI st 8 i v) := by
  refine fk_wset (w := wM) (kdM_lt (by rw [h]; decide)) (fun j _ hj => xEM_I hj) ?_
  show xEM g (sI st 8 i v) i = _
  rw [at_8 h]
  simp [gI_sI, gT_sI]
theorem wst_8_12 {g : fkG} {st : fkS} {i : Nat} {v : Int32} (h : kdM i = 8) : (fk_ws wM g st).set i (g.1 i, .inr (8, (.int (gI st 0 i) :: fk_r g 1 :: fk_r g 2 :: fk_r g 3 :: fk_r g 4 :: fk_r g 5 :: .int (gI st 6 i) :: .int (gI st 7 i) :: .int (gI st 8 i) :: fk_r g 6 :: fk_r g 7 :: fk_r g 8 :: .int v :: .int (gI st 13 i) :: fk_r g 9 :: .int (gI st 15 i) :: fk_r g 10 :: .int (gI st 17 i) :: fk_r g 11 :: fk_r g 12 :: .int (gI st 20 i) :: fk_r g 13 :: .int (gI st 22 i) :: fk_r g 14 :: .int (gI st 24 i) :: fk_r g 15 :: .int (gI st 26 i) :: .int (gI st 27 i) :: fk_r g 16 :: fk_r g 17 :: fk_r g 18 :: .int (gI st 31 i) :: fk_r g 19 :: fk_r g 20 :: fk_r g 21 :: .int (gI st 35 i) :: .int (gI st 36 i) :: []))) = fk_ws wM g (sI st 12 i v) := by
  refine fk_wset (w := wM) (kdM_lt (by rw [h]; decide)) (fun j _ hj => xEM_I hj) ?_
  show xEM g (sI st 12 i v) i = _
  rw [at_8 h]
  simp [gI_sI, gT_sI]
theorem wst_8_13 {g : fkG} {st : fkS} {i : Nat} {v : Int32} (h : kdM i = 8) : (fk_ws wM g st).set i (g.1 i, .inr (8, (.int (gI st 0 i) :: fk_r g 1 :: fk_r g 2 :: fk_r g 3 :: fk_r g 4 :: fk_r g 5 :: .int (gI st 6 i) :: .int (gI st 7 i) :: .int (gI st 8 i) :: fk_r g 6 :: fk_r g 7 :: fk_r g 8 :: .int (gI st 12 i) :: .int v :: fk_r g 9 :: .int (gI st 15 i) :: fk_r g 10 :: .int (gI st 17 i) :: fk_r g 11 :: fk_r g 12 :: .int (gI st 20 i) :: fk_r g 13 :: .int (gI st 22 i) :: fk_r g 14 :: .int (gI st 24 i) :: fk_r g 15 :: .int (gI st 26 i) :: .int (gI st 27 i) :: fk_r g 16 :: fk_r g 17 :: fk_r g 18 :: .int (gI st 31 i) :: fk_r g 19 :: fk_r g 20 :: fk_r g 21 :: .int (gI st 35 i) :: .int (gI st 36 i) :: []))) = fk_ws wM g (sI st 13 i v) := by
  refine fk_wset (w := wM) (kdM_lt (by rw [h]; decide)) (fun j _ hj => xEM_I hj) ?_
  show xEM g (sI st 13 i v) i = _
  rw [at_8 h]
  simp [gI_sI, gT_sI]
theorem wst_8_15 {g : fkG} {st : fkS} {i : Nat} {v : Int32} (h : kdM i = 8) : (fk_ws wM g st).set i (g.1 i, .inr (8, (.int (gI st 0 i) :: fk_r g 1 :: fk_r g 2 :: fk_r g 3 :: fk_r g 4 :: fk_r g 5 :: .int (gI st 6 i) :: .int (gI st 7 i) :: .int (gI st 8 i) :: fk_r g 6 :: fk_r g 7 :: fk_r g 8 :: .int (gI st 12 i) :: .int (gI st 13 i) :: fk_r g 9 :: .int v :: fk_r g 10 :: .int (gI st 17 i) :: fk_r g 11 :: fk_r g 12 :: .int (gI st 20 i) :: fk_r g 13 :: .int (gI st 22 i) :: fk_r g 14 :: .int (gI st 24 i) :: fk_r g 15 :: .int (gI st 26 i) :: .int (gI st 27 i) :: fk_r g 16 :: fk_r g 17 :: fk_r g 18 :: .int (gI st 31 i) :: fk_r g 19 :: fk_r g 20 :: fk_r g 21 :: .int (gI st 35 i) :: .int (gI st 36 i) :: []))) = fk_ws wM g (sI st 15 i v) := by
  refine fk_wset (w := wM) (kdM_lt (by rw [h]; decide)) (fun j _ hj => xEM_I hj) ?_
  show xEM g (sI st 15 i v) i = _
  rw [at_8 h]
  simp [gI_sI, gT_sI]
theorem wst_8_17 {g : fkG} {st : fkS} {i : Nat} {v : Int32} (h : kdM i = 8) : (fk_ws wM g st).set i (g.1 i, .inr (8, (.int (gI st 0 i) :: fk_r g 1 :: fk_r g 2 :: fk_r g 3 :: fk_r g 4 :: fk_r g 5 :: .int (gI st 6 i) :: .int (gI st 7 i) :: .int (gI st 8 i) :: fk_r g 6 :: fk_r g 7 :: fk_r g 8 :: .int (gI st 12 i) :: .int (gI st 13 i) :: fk_r g 9 :: .int (gI st 15 i) :: fk_r g 10 :: .int v :: fk_r g 11 :: fk_r g 12 :: .int (gI st 20 i) :: fk_r g 13 :: .int (gI st 22 i) :: fk_r g 14 :: .int (gI st 24 i) :: fk_r g 15 :: .int (gI st 26 i) :: .int (gI st 27 i) :: fk_r g 16 :: fk_r g 17 :: fk_r g 18 :: .int (gI st 31 i) :: fk_r g 19 :: fk_r g 20 :: fk_r g 21 :: .int (gI st 35 i) :: .int (gI st 36 i) :: []))) = fk_ws wM g (sI st 17 i v) := by
  refine fk_wset (w := wM) (kdM_lt (by rw [h]; decide)) (fun j _ hj => xEM_I hj) ?_
  show xEM g (sI st 17 i v) i = _
  rw [at_8 h]
  simp [gI_sI, gT_sI]
theorem wst_8_20 {g : fkG} {st : fkS} {i : Nat} {v : Int32} (h : kdM i = 8) : (fk_ws wM g st).set i (g.1 i, .inr (8, (.int (gI st 0 i) :: fk_r g 1 :: fk_r g 2 :: fk_r g 3 :: fk_r g 4 :: fk_r g 5 :: .int (gI st 6 i) :: .int (gI st 7 i) :: .int (gI st 8 i) :: fk_r g 6 :: fk_r g 7 :: fk_r g 8 :: .int (gI st 12 i) :: .int (gI st 13 i) :: fk_r g 9 :: .int (gI st 15 i) :: fk_r g 10 :: .int (gI st 17 i) :: fk_r g 11 :: fk_r g 12 :: .int v :: fk_r g 13 :: .int (gI st 22 i) :: fk_r g 14 :: .int (gI st 24 i) :: fk_r g 15 :: .int (gI st 26 i) :: .int (gI st 27 i) :: fk_r g 16 :: fk_r g 17 :: fk_r g 18 :: .int (gI st 31 i) :: fk_r g 19 :: fk_r g 20 :: fk_r g 21 :: .int (gI st 35 i) :: .int (gI st 36 i) :: []))) = fk_ws wM g (sI st 20 i v) := by
  refine fk_wset (w := wM) (kdM_lt (by rw [h]; decide)) (fun j _ hj => xEM_I hj) ?_
  show xEM g (sI st 20 i v) i = _
  rw [at_8 h]
  simp [gI_sI, gT_sI]
theorem wst_8_22 {g : fkG} {st : fkS} {i : Nat} {v : Int32} (h : kdM i = 8) : (fk_ws wM g st).set i (g.1 i, .inr (8, (.int (gI st 0 i) :: fk_r g 1 :: fk_r g 2 :: fk_r g 3 :: fk_r g 4 :: fk_r g 5 :: .int (gI st 6 i) :: .int (gI st 7 i) :: .int (gI st 8 i) :: fk_r g 6 :: fk_r g 7 :: fk_r g 8 :: .int (gI st 12 i) :: .int (gI st 13 i) :: fk_r g 9 :: .int (gI st 15 i) :: fk_r g 10 :: .int (gI st 17 i) :: fk_r g 11 :: fk_r g 12 :: .int (gI st 20 i) :: fk_r g 13 :: .int v :: fk_r g 14 :: .int (gI st 24 i) :: fk_r g 15 :: .int (gI st 26 i) :: .int (gI st 27 i) :: fk_r g 16 :: fk_r g 17 :: fk_r g 18 :: .int (gI st 31 i) :: fk_r g 19 :: fk_r g 20 :: fk_r g 21 :: .int (gI st 35 i) :: .int (gI st 36 i) :: []))) = fk_ws wM g (sI st 22 i v) := by
  refine fk_wset (w := wM) (kdM_lt (by rw [h]; decide)) (fun j _ hj => xEM_I hj) ?_
  show xEM g (sI st 22 i v) i = _
  rw [at_8 h]
  simp [gI_sI, gT_sI]
theorem wst_8_24 {g : fkG} {st : fkS} {i : Nat} {v : Int32} (h : kdM i = 8) : (fk_ws wM g st).set i (g.1 i, .inr (8, (.int (gI st 0 i) :: fk_r g 1 :: fk_r g 2 :: fk_r g 3 :: fk_r g 4 :: fk_r g 5 :: .int (gI st 6 i) :: .int (gI st 7 i) :: .int (gI st 8 i) :: fk_r g 6 :: fk_r g 7 :: fk_r g 8 :: .int (gI st 12 i) :: .int (gI st 13 i) :: fk_r g 9 :: .int (gI st 15 i) :: fk_r g 10 :: .int (gI st 17 i) :: fk_r g 11 :: fk_r g 12 :: .int (gI st 20 i) :: fk_r g 13 :: .int (gI st 22 i) :: fk_r g 14 :: .int v :: fk_r g 15 :: .int (gI st 26 i) :: .int (gI st 27 i) :: fk_r g 16 :: fk_r g 17 :: fk_r g 18 :: .int (gI st 31 i) :: fk_r g 19 :: fk_r g 20 :: fk_r g 21 :: .int (gI st 35 i) :: .int (gI st 36 i) :: []))) = fk_ws wM g (sI st 24 i v) := by
  refine fk_wset (w := wM) (kdM_lt (by rw [h]; decide)) (fun j _ hj => xEM_I hj) ?_
  show xEM g (sI st 24 i v) i = _
  rw [at_8 h]
  simp [gI_sI, gT_sI]
theorem wst_8_26 {g : fkG} {st : fkS} {i : Nat} {v : Int32} (h : kdM i = 8) : (fk_ws wM g st).set i (g.1 i, .inr (8, (.int (gI st 0 i) :: fk_r g 1 :: fk_r g 2 :: fk_r g 3 :: fk_r g 4 :: fk_r g 5 :: .int (gI st 6 i) :: .int (gI st 7 i) :: .int (gI st 8 i) :: fk_r g 6 :: fk_r g 7 :: fk_r g 8 :: .int (gI st 12 i) :: .int (gI st 13 i) :: fk_r g 9 :: .int (gI st 15 i) :: fk_r g 10 :: .int (gI st 17 i) :: fk_r g 11 :: fk_r g 12 :: .int (gI st 20 i) :: fk_r g 13 :: .int (gI st 22 i) :: fk_r g 14 :: .int (gI st 24 i) :: fk_r g 15 :: .int v :: .int (gI st 27 i) :: fk_r g 16 :: fk_r g 17 :: fk_r g 18 :: .int (gI st 31 i) :: fk_r g 19 :: fk_r g 20 :: fk_r g 21 :: .int (gI st 35 i) :: .int (gI st 36 i) :: []))) = fk_ws wM g (sI st 26 i v) := by
  refine fk_wset (w := wM) (kdM_lt (by rw [h]; decide)) (fun j _ hj => xEM_I hj) ?_
  show xEM g (sI st 26 i v) i = _
  rw [at_8 h]
  simp [gI_sI, gT_sI]
theorem wst_8_27 {g : fkG} {st : fkS} {i : Nat} {v : Int32} (h : kdM i = 8) : (fk_ws wM g st).set i (g.1 i, .inr (8, (.int (gI st 0 i) :: fk_r g 1 :: fk_r g 2 :: fk_r g 3 :: fk_r g 4 :: fk_r g 5 :: .int (gI st 6 i) :: .int (gI st 7 i) :: .int (gI st 8 i) :: fk_r g 6 :: fk_r g 7 :: fk_r g 8 :: .int (gI st 12 i) :: .int (gI st 13 i) :: fk_r g 9 :: .int (gI st 15 i) :: fk_r g 10 :: .int (gI st 17 i) :: fk_r g 11 :: fk_r g 12 :: .int (gI st 20 i) :: fk_r g 13 :: .int (gI st 22 i) :: fk_r g 14 :: .int (gI st 24 i) :: fk_r g 15 :: .int (gI st 26 i) :: .int v :: fk_r g 16 :: fk_r g 17 :: fk_r g 18 :: .int (gI st 31 i) :: fk_r g 19 :: fk_r g 20 :: fk_r g 21 :: .int (gI st 35 i) :: .int (gI st 36 i) :: []))) = fk_ws wM g (sI st 27 i v) := by
  refine fk_wset (w := wM) (kdM_lt (by rw [h]; decide)) (fun j _ hj => xEM_I hj) ?_
  show xEM g (sI st 27 i v) i = _
  rw [at_8 h]
  simp [gI_sI, gT_sI]
theorem wst_8_31 {g : fkG} {st : fkS} {i : Nat} {v : Int32} (h : kdM i = 8) : (fk_ws wM g st).set i (g.1 i, .inr (8, (.int (gI st 0 i) :: fk_r g 1 :: fk_r g 2 :: fk_r g 3 :: fk_r g 4 :: fk_r g 5 :: .int (gI st 6 i) :: .int (gI st 7 i) :: .int (gI st 8 i) :: fk_r g 6 :: fk_r g 7 :: fk_r g 8 :: .int (gI st 12 i) :: .int (gI st 13 i) :: fk_r g 9 :: .int (gI st 15 i) :: fk_r g 10 :: .int (gI st 17 i) :: fk_r g 11 :: fk_r g 12 :: .int (gI st 20 i) :: fk_r g 13 :: .int (gI st 22 i) :: fk_r g 14 :: .int (gI st 24 i) :: fk_r g 15 :: .int (gI st 26 i) :: .int (gI st 27 i) :: fk_r g 16 :: fk_r g 17 :: fk_r g 18 :: .int v :: fk_r g 19 :: fk_r g 20 :: fk_r g 21 :: .int (gI st 35 i) :: .int (gI st 36 i) :: []))) = fk_ws wM g (sI st 31 i v) := by
  refine fk_wset (w := wM) (kdM_lt (by rw [h]; decide)) (fun j _ hj => xEM_I hj) ?_
  show xEM g (sI st 31 i v) i = _
  rw [at_8 h]
  simp [gI_sI, gT_sI]
theorem wst_8_35 {g : fkG} {st : fkS} {i : Nat} {v : Int32} (h : kdM i = 8) : (fk_ws wM g st).set i (g.1 i, .inr (8, (.int (gI st 0 i) :: fk_r g 1 :: fk_r g 2 :: fk_r g 3 :: fk_r g 4 :: fk_r g 5 :: .int (gI st 6 i) :: .int (gI st 7 i) :: .int (gI st 8 i) :: fk_r g 6 :: fk_r g 7 :: fk_r g 8 :: .int (gI st 12 i) :: .int (gI st 13 i) :: fk_r g 9 :: .int (gI st 15 i) :: fk_r g 10 :: .int (gI st 17 i) :: fk_r g 11 :: fk_r g 12 :: .int (gI st 20 i) :: fk_r g 13 :: .int (gI st 22 i) :: fk_r g 14 :: .int (gI st 24 i) :: fk_r g 15 :: .int (gI st 26 i) :: .int (gI st 27 i) :: fk_r g 16 :: fk_r g 17 :: fk_r g 18 :: .int (gI st 31 i) :: fk_r g 19 :: fk_r g 20 :: fk_r g 21 :: .int v :: .int (gI st 36 i) :: []))) = fk_ws wM g (sI st 35 i v) := by
  refine fk_wset (w := wM) (kdM_lt (by rw [h]; decide)) (fun j _ hj => xEM_I hj) ?_
  show xEM g (sI st 35 i v) i = _
  rw [at_8 h]
  simp [gI_sI, gT_sI]
theorem wst_8_36 {g : fkG} {st : fkS} {i : Nat} {v : Int32} (h : kdM i = 8) : (fk_ws wM g st).set i (g.1 i, .inr (8, (.int (gI st 0 i) :: fk_r g 1 :: fk_r g 2 :: fk_r g 3 :: fk_r g 4 :: fk_r g 5 :: .int (gI st 6 i) :: .int (gI st 7 i) :: .int (gI st 8 i) :: fk_r g 6 :: fk_r g 7 :: fk_r g 8 :: .int (gI st 12 i) :: .int (gI st 13 i) :: fk_r g 9 :: .int (gI st 15 i) :: fk_r g 10 :: .int (gI st 17 i) :: fk_r g 11 :: fk_r g 12 :: .int (gI st 20 i) :: fk_r g 13 :: .int (gI st 22 i) :: fk_r g 14 :: .int (gI st 24 i) :: fk_r g 15 :: .int (gI st 26 i) :: .int (gI st 27 i) :: fk_r g 16 :: fk_r g 17 :: fk_r g 18 :: .int (gI st 31 i) :: fk_r g 19 :: fk_r g 20 :: fk_r g 21 :: .int (gI st 35 i) :: .int v :: []))) = fk_ws wM g (sI st 36 i v) := by
  refine fk_wset (w := wM) (kdM_lt (by rw [h]; decide)) (fun j _ hj => xEM_I hj) ?_
  show xEM g (sI st 36 i v) i = _
  rw [at_8 h]
  simp [gI_sI, gT_sI]
theorem wst_4_T {g : fkG} {st : fkS} {t : Nat} : (fk_ws wC g st).set 34 (g.1 34, .inr (4, [.int (gI st 80 34), .int (gI st 81 34), fk_r g t, fk_r g 35])) = fk_ws wC g (sT st (some t)) :=
  fk_wset (w := wC) (show 34 < 48 by decide) (fun j _ hj => xEC_T hj) rfl
/-- a row of ints, of longs, at a place of the world -/
def fk_isI (w : fkW) (g : fkG) (i n : Nat) : Prop := i < w.2 ∧ (∀ st, w.1 g st i = .inl (g.2.2.1.1, n, .inl (gA st i))) ∧ ∀ (st : fkS) (h : Nat → Int32) (j : Nat), j ≠ i → w.1 g (sAF st i h) j = w.1 g st j
def fk_isL (w : fkW) (g : fkG) (i n : Nat) : Prop := i < w.2 ∧ (∀ st, w.1 g st i = .inl (g.2.2.1.2.1, n, .inr (.inl (gL st i)))) ∧ ∀ (st : fkS) (h : Nat → Int64) (j : Nat), j ≠ i → w.1 g (sLF st i h) j = w.1 g st j
theorem isI_C {g : fkG} {i n : Nat} (h : kdC i = 9) (hn : lnC i = n) : fk_isI wC g i n := by
  refine ⟨kdC_lt (by rw [h]; decide), fun st => ?_, fun st v j hj => xEC_A hj⟩
  show xEC g st i = _
  subst hn
  unfold xEC
  rw [h]
  first | done | rfl
theorem isL_C {g : fkG} {i n : Nat} (h : kdC i = 10) (hn : lnC i = n) : fk_isL wC g i n := by
  refine ⟨kdC_lt (by rw [h]; decide), fun st => ?_, fun st v j hj => xEC_L hj⟩
  show xEC g st i = _
  subst hn
  unfold xEC
  rw [h]
  first | done | rfl
theorem isI_M {g : fkG} {i n : Nat} (h : kdM i = 9) (hn : lnM i = n) : fk_isI wM g i n := by
  refine ⟨kdM_lt (by rw [h]; decide), fun st => ?_, fun st v j hj => xEM_A hj⟩
  show xEM g st i = _
  subst hn
  unfold xEM
  rw [h]
  first | done | rfl
theorem isL_M {g : fkG} {i n : Nat} (h : kdM i = 10) (hn : lnM i = n) : fk_isL wM g i n := by
  refine ⟨kdM_lt (by rw [h]; decide), fun st => ?_, fun st v j hj => xEM_L hj⟩
  show xEM g st i = _
  subst hn
  unfold xEM
  rw [h]
  first | done | rfl
theorem isI_0_1 {g : fkG} {i : Nat} (h : kdC i = 0) : fk_isI wC g (i + 3) 7 := by
  have h1 : i < 48 := kdC_lt (by rw [h]; decide)
  have h2 := (show ∀ i, i < 48 → kdC i = 0 → kdC (i + 3) = 9 ∧ lnC (i + 3) = 7 from by decide +kernel) i h1 h
  exact isI_C h2.1 h2.2
theorem isI_0_2 {g : fkG} {i : Nat} (h : kdC i = 0) : fk_isI wC g (i + 6) 7 := by
  have h1 : i < 48 := kdC_lt (by rw [h]; decide)
  have h2 := (show ∀ i, i < 48 → kdC i = 0 → kdC (i + 6) = 9 ∧ lnC (i + 6) = 7 from by decide +kernel) i h1 h
  exact isI_C h2.1 h2.2
theorem isI_0_3 {g : fkG} {i : Nat} (h : kdC i = 0) : fk_isI wC g (i + 9) 7 := by
  have h1 : i < 48 := kdC_lt (by rw [h]; decide)
  have h2 := (show ∀ i, i < 48 → kdC i = 0 → kdC (i + 9) = 9 ∧ lnC (i + 9) = 7 from by decide +kernel) i h1 h
  exact isI_C h2.1 h2.2
theorem isI_0_4 {g : fkG} {i : Nat} (h : kdC i = 0) : fk_isI wC g (i + 12) 40 := by
  have h1 : i < 48 := kdC_lt (by rw [h]; decide)
  have h2 := (show ∀ i, i < 48 → kdC i = 0 → kdC (i + 12) = 9 ∧ lnC (i + 12) = 40 from by decide +kernel) i h1 h
  exact isI_C h2.1 h2.2
theorem isI_1_0 {g : fkG} {i : Nat} (h : kdC i = 1) : fk_isI wC g (i + 1) 20 := by
  have h1 : i < 48 := kdC_lt (by rw [h]; decide)
  have h2 := (show ∀ i, i < 48 → kdC i = 1 → kdC (i + 1) = 9 ∧ lnC (i + 1) = 20 from by decide +kernel) i h1 h
  exact isI_C h2.1 h2.2
theorem isI_2_2 {g : fkG} {i : Nat} (h : kdC i = 2) : fk_isI wC g (i + 1) 7 := by
  have h1 : i < 48 := kdC_lt (by rw [h]; decide)
  have h2 := (show ∀ i, i < 48 → kdC i = 2 → kdC (i + 1) = 9 ∧ lnC (i + 1) = 7 from by decide +kernel) i h1 h
  exact isI_C h2.1 h2.2
theorem isI_2_3 {g : fkG} {i : Nat} (h : kdC i = 2) : fk_isI wC g (i + 2) 7 := by
  have h1 : i < 48 := kdC_lt (by rw [h]; decide)
  have h2 := (show ∀ i, i < 48 → kdC i = 2 → kdC (i + 2) = 9 ∧ lnC (i + 2) = 7 from by decide +kernel) i h1 h
  exact isI_C h2.1 h2.2
theorem isI_2_4 {g : fkG} {i : Nat} (h : kdC i = 2) : fk_isI wC g (i + 3) 7 := by
  have h1 : i < 48 := kdC_lt (by rw [h]; decide)
  have h2 := (show ∀ i, i < 48 → kdC i = 2 → kdC (i + 3) = 9 ∧ lnC (i + 3) = 7 from by decide +kernel) i h1 h
  exact isI_C h2.1 h2.2
theorem isI_3_0 {g : fkG} {i : Nat} (h : kdC i = 3) : fk_isI wC g (i + 1) 8 := by
  have h1 : i < 48 := kdC_lt (by rw [h]; decide)
  have h2 := (show ∀ i, i < 48 → kdC i = 3 → kdC (i + 1) = 9 ∧ lnC (i + 1) = 8 from by decide +kernel) i h1 h
  exact isI_C h2.1 h2.2
theorem isI_4_3 {g : fkG} {i : Nat} (h : kdC i = 4) : fk_isI wC g (i + 1) 3 := by
  have h1 : i < 48 := kdC_lt (by rw [h]; decide)
  have h2 := (show ∀ i, i < 48 → kdC i = 4 → kdC (i + 1) = 9 ∧ lnC (i + 1) = 3 from by decide +kernel) i h1 h
  exact isI_C h2.1 h2.2
theorem isL_5_4 {g : fkG} {i : Nat} (h : kdC i = 5) : fk_isL wC g (i + 8) 160 := by
  have h1 : i < 48 := kdC_lt (by rw [h]; decide)
  have h2 := (show ∀ i, i < 48 → kdC i = 5 → kdC (i + 8) = 10 ∧ lnC (i + 8) = 160 from by decide +kernel) i h1 h
  exact isL_C h2.1 h2.2
theorem isI_6_5 {g : fkG} {i : Nat} (h : kdC i = 6) : fk_isI wC g (i + 2) 16 := by
  have h1 : i < 48 := kdC_lt (by rw [h]; decide)
  have h2 := (show ∀ i, i < 48 → kdC i = 6 → kdC (i + 2) = 9 ∧ lnC (i + 2) = 16 from by decide +kernel) i h1 h
  exact isI_C h2.1 h2.2
theorem isI_7_11 {g : fkG} : fk_isI wC g 1 8 := isI_C rfl rfl
theorem isI_8_1 {g : fkG} : fk_isI wM g 1 7 := isI_M rfl rfl
theorem isI_8_2 {g : fkG} : fk_isI wM g 2 7 := isI_M rfl rfl
theorem isI_8_3 {g : fkG} : fk_isI wM g 3 7 := isI_M rfl rfl
theorem isI_8_4 {g : fkG} : fk_isI wM g 4 3 := isI_M rfl rfl
theorem isI_8_5 {g : fkG} : fk_isI wM g 5 40 := isI_M rfl rfl
theorem isI_8_9 {g : fkG} : fk_isI wM g 6 8 := isI_M rfl rfl
theorem isI_8_10 {g : fkG} : fk_isI wM g 7 8 := isI_M rfl rfl
theorem isL_8_11 {g : fkG} : fk_isL wM g 8 1280 := isL_M rfl rfl
theorem isI_8_14 {g : fkG} : fk_isI wM g 9 3 := isI_M rfl rfl
theorem isI_8_16 {g : fkG} : fk_isI wM g 10 67 := isI_M rfl rfl
theorem isI_8_18 {g : fkG} : fk_isI wM g 11 20 := isI_M rfl rfl
theorem isI_8_19 {g : fkG} : fk_isI wM g 12 8 := isI_M rfl rfl
theorem isI_8_21 {g : fkG} : fk_isI wM g 13 67 := isI_M rfl rfl
theorem isI_8_23 {g : fkG} : fk_isI wM g 14 8 := isI_M rfl rfl
theorem isI_8_25 {g : fkG} : fk_isI wM g 15 16 := isI_M rfl rfl
theorem isI_8_28 {g : fkG} : fk_isI wM g 16 7 := isI_M rfl rfl
theorem isI_8_29 {g : fkG} : fk_isI wM g 17 14 := isI_M rfl rfl
theorem isI_8_30 {g : fkG} : fk_isI wM g 18 7 := isI_M rfl rfl
theorem isI_8_32 {g : fkG} : fk_isI wM g 19 7 := isI_M rfl rfl
theorem isI_8_33 {g : fkG} : fk_isI wM g 20 7 := isI_M rfl rfl
theorem isI_8_34 {g : fkG} : fk_isI wM g 21 7 := isI_M rfl rfl
theorem a_iload {w : fkW} {g : fkG} {k : fkK} {ρ : Type} {en : ρ → Option Value} {own : String} {cc : ByteArray} {nL fr lo pc : Nat} {ret : Option FieldType} {lv : List (Nat × Value)} {stk : List Value} {st : fkS} (hk : fk_ok w g k own cc nL ret fr lo) {i n : Nat} {j : Int32} {F1 : Int32 → Option (ρ × fkS)} (hi : fk_isI w g i n) (hdg : decode cc pc = .ok (.iaload, 1))
    (kk : ∀ x, fk_J w g en k (pc + 1) lv (.int x :: stk) st (F1 x)) : fk_J w g en k pc lv (.int j :: fk_r g i :: stk) st (fk_chk (fk_in j n) (fk_let (gA st i j.toNatClampNeg) F1)) := by
  intro o ho hq
  cases hin : fk_in j n with
  | false => rw [hin] at ho; exact absurd ho (by simp [fk_chk])
  | true =>
  rw [hin] at ho
  have hin := fk_in_vp hin
  have kk := kk (gA st i j.toNatClampNeg) o ho hq
  obtain ⟨p, l, e, R, s, m, args, below, meth, c, rv, sf⟩ := k
  obtain ⟨hx, hb, hml, hown, hts, hK, hE, hr, hlk, hinj, hfr, hlo⟩ := hk
  obtain ⟨hi1, hi2, hi3⟩ := hi
  intro H locs ls hl hP hS
  exact va_iald (D := g.2.1) (ws := fk_ws w g st) hx hb hK hP i 0 (by rw [fk_wat hi1, hi2]) rfl hin hdg (kk H locs ls hl hP hS)
theorem a_istore {w : fkW} {g : fkG} {k : fkK} {ρ : Type} {en : ρ → Option Value} {own : String} {cc : ByteArray} {nL fr lo pc : Nat} {ret : Option FieldType} {lv : List (Nat × Value)} {stk : List Value} {st : fkS} (hk : fk_ok w g k own cc nL ret fr lo) {i n : Nat} {j : Int32} {x : Int32} {F1 : fkS → Option (ρ × fkS)} (hi : fk_isI w g i n) (hdg : decode cc pc = .ok (.iastore, 1))
    (kk : ∀ st1, fk_J w g en k (pc + 1) lv stk st1 (F1 st1)) : fk_J w g en k pc lv (.int x :: .int j :: fk_r g i :: stk) st (fk_chk (fk_in j n) (fk_let (sA st i j.toNatClampNeg x) F1)) := by
  intro o ho hq
  cases hin : fk_in j n with
  | false => rw [hin] at ho; exact absurd ho (by simp [fk_chk])
  | true =>
  rw [hin] at ho
  have hin := fk_in_vp hin
  have kk := kk (sA st i j.toNatClampNeg x) o ho hq
  obtain ⟨p, l, e, R, s, m, args, below, meth, c, rv, sf⟩ := k
  obtain ⟨hx, hb, hml, hown, hts, hK, hE, hr, hlk, hinj, hfr, hlo⟩ := hk
  obtain ⟨hi1, hi2, hi3⟩ := hi
  intro H locs ls hl hP hS
  refine va_iast (D := g.2.1) (ws := fk_ws w g st) hx hb hK hP (fk_wD hinj _ _) hS i 0 (by rw [fk_wat hi1, hi2]) rfl hin hdg (fun H1 locs1 hP1 hD1 hS1 => kk H1 locs1 ls hl ?_ hS1)
  rw [fk_wset (st' := sA st i j.toNatClampNeg x) hi1 (fun q _ hq => hi3 _ _ _ hq) (by rw [sA, hi2]; simp [gA_sAF])] at hP1
  exact hP1
theorem a_ilen {w : fkW} {g : fkG} {k : fkK} {ρ : Type} {en : ρ → Option Value} {own : String} {cc : ByteArray} {nL fr lo pc : Nat} {ret : Option FieldType} {lv : List (Nat × Value)} {stk : List Value} {st : fkS} {F : Option (ρ × fkS)} (hk : fk_ok w g k own cc nL ret fr lo) {i n : Nat} {v : Int32} (hi : fk_isI w g i n) (hv : Int32.ofNat n = v) (hdg : decode cc pc = .ok (.arraylength, 1))
    (kk : fk_J w g en k (pc + 1) lv (.int v :: stk) st F) : fk_J w g en k pc lv (fk_r g i :: stk) st F := by
  intro o ho hq
  have kk := kk o ho hq
  obtain ⟨p, l, e, R, s, m, args, below, meth, c, rv, sf⟩ := k
  obtain ⟨hx, hb, hml, hown, hts, hK, hE, hr, hlk, hinj, hfr, hlo⟩ := hk
  intro H locs ls hl hP hS
  obtain ⟨hi1, hi2, hi3⟩ := hi
  exact va_alen (D := g.2.1) (ws := fk_ws w g st) hx hb hK hP i 0 (by rw [fk_wat hi1, hi2]) rfl hv hdg (kk H locs ls hl hP hS)
theorem a_lload {w : fkW} {g : fkG} {k : fkK} {ρ : Type} {en : ρ → Option Value} {own : String} {cc : ByteArray} {nL fr lo pc : Nat} {ret : Option FieldType} {lv : List (Nat × Value)} {stk : List Value} {st : fkS} (hk : fk_ok w g k own cc nL ret fr lo) {i n : Nat} {j : Int32} {F1 : Int64 → Option (ρ × fkS)} (hi : fk_isL w g i n) (hdg : decode cc pc = .ok (.laload, 1))
    (kk : ∀ x, fk_J w g en k (pc + 1) lv (.long x :: stk) st (F1 x)) : fk_J w g en k pc lv (.int j :: fk_r g i :: stk) st (fk_chk (fk_in j n) (fk_let (gL st i j.toNatClampNeg) F1)) := by
  intro o ho hq
  cases hin : fk_in j n with
  | false => rw [hin] at ho; exact absurd ho (by simp [fk_chk])
  | true =>
  rw [hin] at ho
  have hin := fk_in_vp hin
  have kk := kk (gL st i j.toNatClampNeg) o ho hq
  obtain ⟨p, l, e, R, s, m, args, below, meth, c, rv, sf⟩ := k
  obtain ⟨hx, hb, hml, hown, hts, hK, hE, hr, hlk, hinj, hfr, hlo⟩ := hk
  obtain ⟨hi1, hi2, hi3⟩ := hi
  intro H locs ls hl hP hS
  exact va_lald (D := g.2.1) (ws := fk_ws w g st) hx hb hK hP i 1 (by rw [fk_wat hi1, hi2]) rfl hin hdg (kk H locs ls hl hP hS)
theorem a_lstore {w : fkW} {g : fkG} {k : fkK} {ρ : Type} {en : ρ → Option Value} {own : String} {cc : ByteArray} {nL fr lo pc : Nat} {ret : Option FieldType} {lv : List (Nat × Value)} {stk : List Value} {st : fkS} (hk : fk_ok w g k own cc nL ret fr lo) {i n : Nat} {j : Int32} {x : Int64} {F1 : fkS → Option (ρ × fkS)} (hi : fk_isL w g i n) (hdg : decode cc pc = .ok (.lastore, 1))
    (kk : ∀ st1, fk_J w g en k (pc + 1) lv stk st1 (F1 st1)) : fk_J w g en k pc lv (.long x :: .int j :: fk_r g i :: stk) st (fk_chk (fk_in j n) (fk_let (sL st i j.toNatClampNeg x) F1)) := by
  intro o ho hq
  cases hin : fk_in j n with
  | false => rw [hin] at ho; exact absurd ho (by simp [fk_chk])
  | true =>
  rw [hin] at ho
  have hin := fk_in_vp hin
  have kk := kk (sL st i j.toNatClampNeg x) o ho hq
  obtain ⟨p, l, e, R, s, m, args, below, meth, c, rv, sf⟩ := k
  obtain ⟨hx, hb, hml, hown, hts, hK, hE, hr, hlk, hinj, hfr, hlo⟩ := hk
  obtain ⟨hi1, hi2, hi3⟩ := hi
  intro H locs ls hl hP hS
  refine va_last (D := g.2.1) (ws := fk_ws w g st) hx hb hK hP (fk_wD hinj _ _) hS i 1 (by rw [fk_wat hi1, hi2]) rfl hin hdg (fun H1 locs1 hP1 hD1 hS1 => kk H1 locs1 ls hl ?_ hS1)
  rw [fk_wset (st' := sL st i j.toNatClampNeg x) hi1 (fun q _ hq => hi3 _ _ _ hq) (by rw [sL, hi2]; simp [gL_sLF])] at hP1
  exact hP1
theorem a_llen {w : fkW} {g : fkG} {k : fkK} {ρ : Type} {en : ρ → Option Value} {own : String} {cc : ByteArray} {nL fr lo pc : Nat} {ret : Option FieldType} {lv : List (Nat × Value)} {stk : List Value} {st : fkS} {F : Option (ρ × fkS)} (hk : fk_ok w g k own cc nL ret fr lo) {i n : Nat} {v : Int32} (hi : fk_isL w g i n) (hv : Int32.ofNat n = v) (hdg : decode cc pc = .ok (.arraylength, 1))
    (kk : fk_J w g en k (pc + 1) lv (.int v :: stk) st F) : fk_J w g en k pc lv (fk_r g i :: stk) st F := by
  intro o ho hq
  have kk := kk o ho hq
  obtain ⟨p, l, e, R, s, m, args, below, meth, c, rv, sf⟩ := k
  obtain ⟨hx, hb, hml, hown, hts, hK, hE, hr, hlk, hinj, hfr, hlo⟩ := hk
  intro H locs ls hl hP hS
  obtain ⟨hi1, hi2, hi3⟩ := hi
  exact va_alen (D := g.2.1) (ws := fk_ws w g st) hx hb hK hP i 1 (by rw [fk_wat hi1, hi2]) rfl hv hdg (kk H locs ls hl hP hS)
def fk_cp (sp dp n : Int32) (n0 n1 : Nat) : Bool := decide (¬ sp < 0 ∧ ¬ dp < 0 ∧ ¬ n < 0 ∧ sp.toNatClampNeg + n.toNatClampNeg ≤ n0 ∧ dp.toNatClampNeg + n.toNatClampNeg ≤ n1)
theorem wd_cpn : Cond.native arraycopyName ∈ fkB := fkB_in (List.mem_of_getElem? (i := 426) (by decide +kernel)) rfl
theorem wd_cps : Cond.static arraycopyName ∈ fkB := fkB_in (List.mem_of_getElem? (i := 425) (by decide +kernel)) rfl
theorem wd_cpi : Cond.initialized "java/lang/System" ∈ fkB := fkB_in (List.mem_of_getElem? (i := 114) (by decide +kernel)) rfl
theorem a_icopy {w : fkW} {g : fkG} {k : fkK} {ρ : Type} {en : ρ → Option Value} {own : String} {cc : ByteArray} {nL fr lo pc : Nat} {ret : Option FieldType} {lv : List (Nat × Value)} {stk : List Value} {st : fkS} (hk : fk_ok w g k own cc nL ret fr lo) {ix i0 i1 n0 n1 : Nat} {sp dp n : Int32} {F1 : fkS → Option (ρ × fkS)} (h0 : fk_isI w g i0 n0) (h1 : fk_isI w g i1 n1) (hlink : Cond.methodLink own ix arraycopyName ∈ fkB) (hf : 1 ≤ fr) (hlq : (stk.map fun v => v.category).sum + (nativeFrameWords "java/lang/System" "arraycopy" 5 + 11) ≤ lo) (hdg : decode cc pc = .ok (.invokestatic ix, 3))
    (kk : ∀ st1, fk_J w g en k (pc + 3) lv stk st1 (F1 st1)) : fk_J w g en k pc lv (.int n :: .int dp :: fk_r g i1 :: .int sp :: fk_r g i0 :: stk) st (fk_chk (fk_cp sp dp n n0 n1) (fk_let (sAF st i1 (va_cpy (gA st i0) (gA st i1) sp.toNatClampNeg dp.toNatClampNeg n.toNatClampNeg)) F1)) := by
  intro o ho hq
  cases hin : fk_cp sp dp n n0 n1 with
  | false => rw [hin] at ho; exact absurd ho (by simp [fk_chk])
  | true =>
  rw [hin] at ho
  have hin := of_decide_eq_true hin
  have kk := kk (sAF st i1 (va_cpy (gA st i0) (gA st i1) sp.toNatClampNeg dp.toNatClampNeg n.toNatClampNeg)) o ho hq
  obtain ⟨p, l, e, R, s, m, args, below, meth, c, rv, sf⟩ := k
  obtain ⟨hx, hb, hml, hown, hts, hK, hE, hr, hlk, hinj, hfr, hlo⟩ := hk
  obtain ⟨hi1, hi2, hi3⟩ := h0
  obtain ⟨hj1, hj2, hj3⟩ := h1
  intro H locs ls hl hP hS
  refine va_copyi (D := g.2.1) (ws := fk_ws w g st) hx hb hl.1.symm hown (hts _ hlink) (hts _ wd_cpn) (hts _ wd_cps) (hts _ wd_cpi) hK hP (fk_wD hinj _ _) hS i0 i1 0 0 (by rw [fk_wat hi1, hi2]) (by rw [fk_wat hj1, hj2]) rfl rfl rfl hin.1 hin.2.1 hin.2.2.1 hin.2.2.2.1 hin.2.2.2.2 (fun _ _ => rfl) (Nat.le_trans hf hfr) (Nat.le_trans hlq hlo) hdg (fun H1 locs1 hP1 hD1 hS1 => kk H1 locs1 ls hl ?_ hS1)
  rw [fk_wset (st' := sAF st i1 (va_cpy (gA st i0) (gA st i1) sp.toNatClampNeg dp.toNatClampNeg n.toNatClampNeg)) hj1 (fun q _ hq => hj3 _ _ _ hq) (by rw [hj2]; simp [gA_sAF])] at hP1
  exact hP1
theorem a_lcopy {w : fkW} {g : fkG} {k : fkK} {ρ : Type} {en : ρ → Option Value} {own : String} {cc : ByteArray} {nL fr lo pc : Nat} {ret : Option FieldType} {lv : List (Nat × Value)} {stk : List Value} {st : fkS} (hk : fk_ok w g k own cc nL ret fr lo) {ix i0 i1 n0 n1 : Nat} {sp dp n : Int32} {F1 : fkS → Option (ρ × fkS)} (h0 : fk_isL w g i0 n0) (h1 : fk_isL w g i1 n1) (hlink : Cond.methodLink own ix arraycopyName ∈ fkB) (hf : 1 ≤ fr) (hlq : (stk.map fun v => v.category).sum + (nativeFrameWords "java/lang/System" "arraycopy" 5 + 11) ≤ lo) (hdg : decode cc pc = .ok (.invokestatic ix, 3))
    (kk : ∀ st1, fk_J w g en k (pc + 3) lv stk st1 (F1 st1)) : fk_J w g en k pc lv (.int n :: .int dp :: fk_r g i1 :: .int sp :: fk_r g i0 :: stk) st (fk_chk (fk_cp sp dp n n0 n1) (fk_let (sLF st i1 (va_cpy (gL st i0) (gL st i1) sp.toNatClampNeg dp.toNatClampNeg n.toNatClampNeg)) F1)) := by
  intro o ho hq
  cases hin : fk_cp sp dp n n0 n1 with
  | false => rw [hin] at ho; exact absurd ho (by simp [fk_chk])
  | true =>
  rw [hin] at ho
  have hin := of_decide_eq_true hin
  have kk := kk (sLF st i1 (va_cpy (gL st i0) (gL st i1) sp.toNatClampNeg dp.toNatClampNeg n.toNatClampNeg)) o ho hq
  obtain ⟨p, l, e, R, s, m, args, below, meth, c, rv, sf⟩ := k
  obtain ⟨hx, hb, hml, hown, hts, hK, hE, hr, hlk, hinj, hfr, hlo⟩ := hk
  obtain ⟨hi1, hi2, hi3⟩ := h0
  obtain ⟨hj1, hj2, hj3⟩ := h1
  intro H locs ls hl hP hS
  refine va_copyl (D := g.2.1) (ws := fk_ws w g st) hx hb hl.1.symm hown (hts _ hlink) (hts _ wd_cpn) (hts _ wd_cps) (hts _ wd_cpi) hK hP (fk_wD hinj _ _) hS i0 i1 1 1 (by rw [fk_wat hi1, hi2]) (by rw [fk_wat hj1, hj2]) rfl rfl rfl hin.1 hin.2.1 hin.2.2.1 hin.2.2.2.1 hin.2.2.2.2 (fun _ _ => rfl) (Nat.le_trans hf hfr) (Nat.le_trans hlq hlo) hdg (fun H1 locs1 hP1 hD1 hS1 => kk H1 locs1 ls hl ?_ hS1)
  rw [fk_wset (st' := sLF st i1 (va_cpy (gL st i0) (gL st i1) sp.toNatClampNeg dp.toNatClampNeg n.toNatClampNeg)) hj1 (fun q _ hq => hj3 _ _ _ hq) (by rw [hj2]; simp [gL_sLF])] at hP1
  exact hP1
theorem sh_kd : ∀ n, n < 8 → kdC (3 + n) = 5 := by decide +kernel
theorem fk_in_lt {j : Int32} {n : Nat} (h : fk_in j n = true) : j.toNatClampNeg < n := by
  have h1 := fk_in_vp h
  unfold vp_in at h1
  omega
theorem a_shelf {g : fkG} {k : fkK} {ρ : Type} {en : ρ → Option Value} {own : String} {cc : ByteArray} {nL fr lo pc : Nat} {ret : Option FieldType} {lv : List (Nat × Value)} {stk : List Value} {st : fkS} {F : Option (ρ × fkS)} (hk : fk_ok wC g k own cc nL ret fr lo) {j : Int32} (hdg : decode cc pc = .ok (.aaload, 1))
    (kk : kdC (3 + j.toNatClampNeg) = 5 → fk_J wC g en k (pc + 1) lv (fk_r g (3 + j.toNatClampNeg) :: stk) st F) : fk_J wC g en k pc lv (.int j :: fk_r g 2 :: stk) st (fk_chk (fk_in j 8) F) := by
  intro o ho hq
  cases hin : fk_in j 8 with
  | false => rw [hin] at ho; exact absurd ho (by simp [fk_chk])
  | true =>
  rw [hin] at ho
  have kk := kk (sh_kd _ (fk_in_lt hin)) o ho hq
  have hin := fk_in_vp hin
  obtain ⟨p, l, e, R, s, m, args, below, meth, c, rv, sf⟩ := k
  obtain ⟨hx, hb, hml, hown, hts, hK, hE, hr, hlk, hinj, hfr, hlo⟩ := hk
  intro H locs ls hl hP hS
  exact va_aldq (D := g.2.1) (ws := fk_ws wC g st) hx hb hK hP 2 2 (f := fun j => some (g.1 (3 + j))) (n := 8) (by rw [fk_wat (w := wC) (show 2 < 48 by decide)]; rfl) rfl hin hdg (kk H locs ls hl hP hS)
def fk_rka (g : fkG) : Value := .ref g.2.2.2.1.1
theorem wd_ka : Cond.fieldLink RX7 344 "PieFunnels" "KIND_ABOVE" "[I" ∈ fkB := fkB_in (List.mem_of_getElem? (i := 466) (by decide +kernel)) rfl
theorem a_kaget {w : fkW} {g : fkG} {k : fkK} {ρ : Type} {en : ρ → Option Value} {cc : ByteArray} {nL fr lo pc : Nat} {ret : Option FieldType} {lv : List (Nat × Value)} {stk : List Value} {st : fkS} {F : Option (ρ × fkS)} (hk : fk_ok w g k RX7 cc nL ret fr lo) (hdg : decode cc pc = .ok (.getstatic 344, 3))
    (kk : fk_J w g en k (pc + 3) lv (fk_rka g :: stk) st F) : fk_J w g en k pc lv stk st F := by
  intro o ho hq
  have kk := kk o ho hq
  obtain ⟨p, l, e, R, s, m, args, below, meth, c, rv, sf⟩ := k
  obtain ⟨hx, hb, hml, hown, hts, hK, hE, hr, hlk, hinj, hfr, hlo⟩ := hk
  intro H locs ls hl hP hS
  exact va_gets hx hb hE.2.1 hS hown (hts _ wd_ka) (fun _ h => h) hdg (kk H locs ls hl hP hS)
theorem a_kaload {w : fkW} {g : fkG} {k : fkK} {ρ : Type} {en : ρ → Option Value} {own : String} {cc : ByteArray} {nL fr lo pc : Nat} {ret : Option FieldType} {lv : List (Nat × Value)} {stk : List Value} {st : fkS} (hk : fk_ok w g k own cc nL ret fr lo) {j : Int32} {F1 : Int32 → Option (ρ × fkS)} (hdg : decode cc pc = .ok (.iaload, 1))
    (kk : ∀ x, fk_J w g en k (pc + 1) lv (.int x :: stk) st (F1 x)) : fk_J w g en k pc lv (.int j :: fk_rka g :: stk) st (fk_chk (fk_in j 7) (fk_let (fk_ka j.toNatClampNeg) F1)) := by
  intro o ho hq
  cases hin : fk_in j 7 with
  | false => rw [hin] at ho; exact absurd ho (by simp [fk_chk])
  | true =>
  rw [hin] at ho
  have hin := fk_in_vp hin
  have kk := kk (fk_ka j.toNatClampNeg) o ho hq
  obtain ⟨p, l, e, R, s, m, args, below, meth, c, rv, sf⟩ := k
  obtain ⟨hx, hb, hml, hown, hts, hK, hE, hr, hlk, hinj, hfr, hlo⟩ := hk
  intro H locs ls hl hP hS
  exact va_ti hx hb hE.2.2.1 hS hin rfl hdg (kk H locs ls hl hP hS)
theorem a_kalen {w : fkW} {g : fkG} {k : fkK} {ρ : Type} {en : ρ → Option Value} {own : String} {cc : ByteArray} {nL fr lo pc : Nat} {ret : Option FieldType} {lv : List (Nat × Value)} {stk : List Value} {st : fkS} {F : Option (ρ × fkS)} (hk : fk_ok w g k own cc nL ret fr lo) (hdg : decode cc pc = .ok (.arraylength, 1))
    (kk : fk_J w g en k (pc + 1) lv (.int 7 :: stk) st F) : fk_J w g en k pc lv (fk_rka g :: stk) st F := by
  intro o ho hq
  have kk := kk o ho hq
  obtain ⟨p, l, e, R, s, m, args, below, meth, c, rv, sf⟩ := k
  obtain ⟨hx, hb, hml, hown, hts, hK, hE, hr, hlk, hinj, hfr, hlo⟩ := hk
  intro H locs ls hl hP hS
  exact va_tlen hx hb hE.2.2.1 hS rfl hdg (kk H locs ls hl hP hS)
def fk_rbo (g : fkG) : Value := .ref g.2.2.2.1.2
theorem wd_bo : Cond.fieldLink RX1 46 "PieFunnels$Moves" "BODIES" "[I" ∈ fkB := fkB_in (List.mem_of_getElem? (i := 861) (by decide +kernel)) rfl
theorem a_boget {w : fkW} {g : fkG} {k : fkK} {ρ : Type} {en : ρ → Option Value} {cc : ByteArray} {nL fr lo pc : Nat} {ret : Option FieldType} {lv : List (Nat × Value)} {stk : List Value} {st : fkS} {F : Option (ρ × fkS)} (hk : fk_ok w g k RX1 cc nL ret fr lo) (hdg : decode cc pc = .ok (.getstatic 46, 3))
    (kk : fk_J w g en k (pc + 3) lv (fk_rbo g :: stk) st F) : fk_J w g en k pc lv stk st F := by
  intro o ho hq
  have kk := kk o ho hq
  obtain ⟨p, l, e, R, s, m, args, below, meth, c, rv, sf⟩ := k
  obtain ⟨hx, hb, hml, hown, hts, hK, hE, hr, hlk, hinj, hfr, hlo⟩ := hk
  intro H locs ls hl hP hS
  exact va_gets hx hb hE.2.2.2.1 hS hown (hts _ wd_bo) (fun _ h => h) hdg (kk H locs ls hl hP hS)
theorem a_boload {w : fkW} {g : fkG} {k : fkK} {ρ : Type} {en : ρ → Option Value} {own : String} {cc : ByteArray} {nL fr lo pc : Nat} {ret : Option FieldType} {lv : List (Nat × Value)} {stk : List Value} {st : fkS} (hk : fk_ok w g k own cc nL ret fr lo) {j : Int32} {F1 : Int32 → Option (ρ × fkS)} (hdg : decode cc pc = .ok (.iaload, 1))
    (kk : ∀ x, fk_J w g en k (pc + 1) lv (.int x :: stk) st (F1 x)) : fk_J w g en k pc lv (.int j :: fk_rbo g :: stk) st (fk_chk (fk_in j 21) (fk_let (fk_bo j.toNatClampNeg) F1)) := by
  intro o ho hq
  cases hin : fk_in j 21 with
  | false => rw [hin] at ho; exact absurd ho (by simp [fk_chk])
  | true =>
  rw [hin] at ho
  have hin := fk_in_vp hin
  have kk := kk (fk_bo j.toNatClampNeg) o ho hq
  obtain ⟨p, l, e, R, s, m, args, below, meth, c, rv, sf⟩ := k
  obtain ⟨hx, hb, hml, hown, hts, hK, hE, hr, hlk, hinj, hfr, hlo⟩ := hk
  intro H locs ls hl hP hS
  exact va_ti hx hb hE.2.2.2.2.1 hS hin rfl hdg (kk H locs ls hl hP hS)
theorem a_bolen {w : fkW} {g : fkG} {k : fkK} {ρ : Type} {en : ρ → Option Value} {own : String} {cc : ByteArray} {nL fr lo pc : Nat} {ret : Option FieldType} {lv : List (Nat × Value)} {stk : List Value} {st : fkS} {F : Option (ρ × fkS)} (hk : fk_ok w g k own cc nL ret fr lo) (hdg : decode cc pc = .ok (.arraylength, 1))
    (kk : fk_J w g en k (pc + 1) lv (.int 21 :: stk) st F) : fk_J w g en k pc lv (fk_rbo g :: stk) st F := by
  intro o ho hq
  have kk := kk o ho hq
  obtain ⟨p, l, e, R, s, m, args, below, meth, c, rv, sf⟩ := k
  obtain ⟨hx, hb, hml, hown, hts, hK, hE, hr, hlk, hinj, hfr, hlo⟩ := hk
  intro H locs ls hl hP hS
  exact va_tlen hx hb hE.2.2.2.2.1 hS rfl hdg (kk H locs ls hl hP hS)
theorem wd_kaN : Cond.fieldLinkNest RX1 49 "PieFunnels" "KIND_ABOVE" "[I" "PieFunnels" ∈ fk_nests := List.mem_of_getElem? (i := 48) (by decide +kernel)
theorem a_kagetN {w : fkW} {g : fkG} {k : fkK} {ρ : Type} {en : ρ → Option Value} {cc : ByteArray} {nL fr lo pc : Nat} {ret : Option FieldType} {lv : List (Nat × Value)} {stk : List Value} {st : fkS} {F : Option (ρ × fkS)} (hk : fk_ok w g k RX1 cc nL ret fr lo) (hdg : decode cc pc = .ok (.getstatic 49, 3))
    (kk : fk_J w g en k (pc + 3) lv (fk_rka g :: stk) st F) : fk_J w g en k pc lv stk st F := by
  intro o ho hq
  have kk := kk o ho hq
  obtain ⟨p, l, e, R, s, m, args, below, meth, c, rv, sf⟩ := k
  obtain ⟨hx, hb, hml, hown, hts, hK, hE, hr, hlk, hinj, hfr, hlo⟩ := hk
  intro H locs ls hl hP hS
  exact va_getsN hx hb hE.2.1 hS hown (va_Nw.use rfl (hE.1 _ wd_kaN)) (fun _ h => h) hdg (kk H locs ls hl hP hS)
end
section
theorem wf_0_9 : Cond.fieldLink RX0 9 "PieFunnels$Bakery" "birds" "I" ∈ fkB := fkB_in (List.mem_of_getElem? (i := 135) (by decide +kernel)) rfl
theorem f_0_9 {g : fkG} {k : fkK} {ρ : Type} {en : ρ → Option Value} {cc : ByteArray} {nL fr lo pc : Nat} {ret : Option FieldType} {lv : List (Nat × Value)} {stk : List Value} {st : fkS} (hk : fk_ok wC g k RX0 cc nL ret fr lo) {i : Nat} {F1 : Int32 → Option (ρ × fkS)} (hi : kdC i = 0) (hdg : decode cc pc = .ok (.getfield 9, 3))
    (kk : ∀ x, fk_J wC g en k (pc + 3) lv (.int x :: stk) st (F1 x)) : fk_J wC g en k pc lv (fk_r g i :: stk) st (fk_let (gI st 0 i) F1) := by
  intro o ho hq
  have kk := kk (gI st 0 i) o ho hq
  obtain ⟨p, l, e, R, s, m, args, below, meth, c, rv, sf⟩ := k
  obtain ⟨hx, hb, hml, hown, hts, hK, hE, hr, hlk, hinj, hfr, hlo⟩ := hk
  intro H locs ls hl hP hS
  exact va_get (D := g.2.1) (ci := 0) (C := RX0) (T := TX0) (N := 11) (v := .int (gI st 0 i)) hx hb hts wB_0 hown hK hP i (wat_0 hi) rfl 0 (by decide) (hts _ wf_0_9) (fun _ h => h) rfl hdg (kk H locs ls hl hP hS)
theorem p_0_9 {g : fkG} {k : fkK} {ρ : Type} {en : ρ → Option Value} {cc : ByteArray} {nL fr lo pc : Nat} {ret : Option FieldType} {lv : List (Nat × Value)} {stk : List Value} {st : fkS} (hk : fk_ok wC g k RX0 cc nL ret fr lo) {i : Nat} {v : Int32} {F1 : fkS → Option (ρ × fkS)} (hi : kdC i = 0) (hdg : decode cc pc = .ok (.putfield 9, 3))
    (kk : ∀ st1, fk_J wC g en k (pc + 3) lv stk st1 (F1 st1)) : fk_J wC g en k pc lv (.int v :: fk_r g i :: stk) st (fk_let (sI st 0 i v) F1) := by
  intro o ho hq
  have kk := kk (sI st 0 i v) o ho hq
  obtain ⟨p, l, e, R, s, m, args, below, meth, c, rv, sf⟩ := k
  obtain ⟨hx, hb, hml, hown, hts, hK, hE, hr, hlk, hinj, hfr, hlo⟩ := hk
  intro H locs ls hl hP hS
  refine va_put (D := g.2.1) (ci := 0) (C := RX0) (T := TX0) (N := 11) (v := .int v) (ty := .int) hx hb hts wB_0 tyX0 tyX0_ok nmX0 hown hK hP (fk_wD hinj _ _) hS i (wat_0 hi) rfl 0 (by decide) (hts _ wf_0_9) (fun _ h => h) rfl (by decide +kernel) rfl rfl (Nat.le_of_ble_eq_true rfl) hdg (fun H1 locs1 hP1 hD1 hS1 => kk H1 locs1 ls hl ?_ hS1)
  rw [← wst_0_0 hi]
  exact hP1
theorem wf_4_64 : Cond.fieldLinkNest RX4 64 "PieFunnels$Bakery" "birds" "I" "PieFunnels" ∈ fk_nests := List.mem_of_getElem? (i := 0) (by decide +kernel)
theorem f_4_64 {g : fkG} {k : fkK} {ρ : Type} {en : ρ → Option Value} {cc : ByteArray} {nL fr lo pc : Nat} {ret : Option FieldType} {lv : List (Nat × Value)} {stk : List Value} {st : fkS} (hk : fk_ok wC g k RX4 cc nL ret fr lo) {i : Nat} {F1 : Int32 → Option (ρ × fkS)} (hi : kdC i = 0) (hdg : decode cc pc = .ok (.getfield 64, 3))
    (kk : ∀ x, fk_J wC g en k (pc + 3) lv (.int x :: stk) st (F1 x)) : fk_J wC g en k pc lv (fk_r g i :: stk) st (fk_let (gI st 0 i) F1) := by
  intro o ho hq
  have kk := kk (gI st 0 i) o ho hq
  obtain ⟨p, l, e, R, s, m, args, below, meth, c, rv, sf⟩ := k
  obtain ⟨hx, hb, hml, hown, hts, hK, hE, hr, hlk, hinj, hfr, hlo⟩ := hk
  intro H locs ls hl hP hS
  exact va_getN (D := g.2.1) (ci := 0) (C := RX0) (T := TX0) (N := 11) (v := .int (gI st 0 i)) hx hb hts wB_0 hown hK hP i (wat_0 hi) rfl 0 (by decide) (va_Nw.use rfl (hE.1 _ wf_4_64)) (fun _ h => h) rfl hdg (kk H locs ls hl hP hS)
theorem p_4_64 {g : fkG} {k : fkK} {ρ : Type} {en : ρ → Option Value} {cc : ByteArray} {nL fr lo pc : Nat} {ret : Option FieldType} {lv : List (Nat × Value)} {stk : List Value} {st : fkS} (hk : fk_ok wC g k RX4 cc nL ret fr lo) {i : Nat} {v : Int32} {F1 : fkS → Option (ρ × fkS)} (hi : kdC i = 0) (hdg : decode cc pc = .ok (.putfield 64, 3))
    (kk : ∀ st1, fk_J wC g en k (pc + 3) lv stk st1 (F1 st1)) : fk_J wC g en k pc lv (.int v :: fk_r g i :: stk) st (fk_let (sI st 0 i v) F1) := by
  intro o ho hq
  have kk := kk (sI st 0 i v) o ho hq
  obtain ⟨p, l, e, R, s, m, args, below, meth, c, rv, sf⟩ := k
  obtain ⟨hx, hb, hml, hown, hts, hK, hE, hr, hlk, hinj, hfr, hlo⟩ := hk
  intro H locs ls hl hP hS
  refine va_putN (D := g.2.1) (ci := 0) (C := RX0) (T := TX0) (N := 11) (v := .int v) (ty := .int) hx hb hts wB_0 tyX0 tyX0_ok nmX0 hown hK hP (fk_wD hinj _ _) hS i (wat_0 hi) rfl 0 (by decide) (va_Nw.use rfl (hE.1 _ wf_4_64)) (fun _ h => h) rfl (by decide +kernel) rfl rfl (Nat.le_of_ble_eq_true rfl) hdg (fun H1 locs1 hP1 hD1 hS1 => kk H1 locs1 ls hl ?_ hS1)
  rw [← wst_0_0 hi]
  exact hP1
theorem wf_7_171 : Cond.fieldLinkNest RX7 171 "PieFunnels$Bakery" "birds" "I" "PieFunnels" ∈ fk_nests := List.mem_of_getElem? (i := 1) (by decide +kernel)
theorem f_7_171 {g : fkG} {k : fkK} {ρ : Type} {en : ρ → Option Value} {cc : ByteArray} {nL fr lo pc : Nat} {ret : Option FieldType} {lv : List (Nat × Value)} {stk : List Value} {st : fkS} (hk : fk_ok wC g k RX7 cc nL ret fr lo) {i : Nat} {F1 : Int32 → Option (ρ × fkS)} (hi : kdC i = 0) (hdg : decode cc pc = .ok (.getfield 171, 3))
    (kk : ∀ x, fk_J wC g en k (pc + 3) lv (.int x :: stk) st (F1 x)) : fk_J wC g en k pc lv (fk_r g i :: stk) st (fk_let (gI st 0 i) F1) := by
  intro o ho hq
  have kk := kk (gI st 0 i) o ho hq
  obtain ⟨p, l, e, R, s, m, args, below, meth, c, rv, sf⟩ := k
  obtain ⟨hx, hb, hml, hown, hts, hK, hE, hr, hlk, hinj, hfr, hlo⟩ := hk
  intro H locs ls hl hP hS
  exact va_getN (D := g.2.1) (ci := 0) (C := RX0) (T := TX0) (N := 11) (v := .int (gI st 0 i)) hx hb hts wB_0 hown hK hP i (wat_0 hi) rfl 0 (by decide) (va_Nw.use rfl (hE.1 _ wf_7_171)) (fun _ h => h) rfl hdg (kk H locs ls hl hP hS)
theorem p_7_171 {g : fkG} {k : fkK} {ρ : Type} {en : ρ → Option Value} {cc : ByteArray} {nL fr lo pc : Nat} {ret : Option FieldType} {lv : List (Nat × Value)} {stk : List Value} {st : fkS} (hk : fk_ok wC g k RX7 cc nL ret fr lo) {i : Nat} {v : Int32} {F1 : fkS → Option (ρ × fkS)} (hi : kdC i = 0) (hdg : decode cc pc = .ok (.putfield 171, 3))
    (kk : ∀ st1, fk_J wC g en k (pc + 3) lv stk st1 (F1 st1)) : fk_J wC g en k pc lv (.int v :: fk_r g i :: stk) st (fk_let (sI st 0 i v) F1) := by
  intro o ho hq
  have kk := kk (sI st 0 i v) o ho hq
  obtain ⟨p, l, e, R, s, m, args, below, meth, c, rv, sf⟩ := k
  obtain ⟨hx, hb, hml, hown, hts, hK, hE, hr, hlk, hinj, hfr, hlo⟩ := hk
  intro H locs ls hl hP hS
  refine va_putN (D := g.2.1) (ci := 0) (C := RX0) (T := TX0) (N := 11) (v := .int v) (ty := .int) hx hb hts wB_0 tyX0 tyX0_ok nmX0 hown hK hP (fk_wD hinj _ _) hS i (wat_0 hi) rfl 0 (by decide) (va_Nw.use rfl (hE.1 _ wf_7_171)) (fun _ h => h) rfl (by decide +kernel) rfl rfl (Nat.le_of_ble_eq_true rfl) hdg (fun H1 locs1 hP1 hD1 hS1 => kk H1 locs1 ls hl ?_ hS1)
  rw [← wst_0_0 hi]
  exact hP1
theorem wf_0_15 : Cond.fieldLink RX0 15 "PieFunnels$Bakery" "kinds" "[I" ∈ fkB := fkB_in (List.mem_of_getElem? (i := 138) (by decide +kernel)) rfl
theorem f_0_15 {g : fkG} {k : fkK} {ρ : Type} {en : ρ → Option Value} {cc : ByteArray} {nL fr lo pc : Nat} {ret : Option FieldType} {lv : List (Nat × Value)} {stk : List Value} {st : fkS} {F : Option (ρ × fkS)} (hk : fk_ok wC g k RX0 cc nL ret fr lo) {i : Nat} (hi : kdC i = 0) (hdg : decode cc pc = .ok (.getfield 15, 3))
    (kk : fk_J wC g en k (pc + 3) lv (fk_r g (i + 3) :: stk) st F) : fk_J wC g en k pc lv (fk_r g i :: stk) st F := by
  intro o ho hq
  have kk := kk o ho hq
  obtain ⟨p, l, e, R, s, m, args, below, meth, c, rv, sf⟩ := k
  obtain ⟨hx, hb, hml, hown, hts, hK, hE, hr, hlk, hinj, hfr, hlo⟩ := hk
  intro H locs ls hl hP hS
  exact va_get (D := g.2.1) (ci := 0) (C := RX0) (T := TX0) (N := 11) (v := fk_r g (i + 3)) hx hb hts wB_0 hown hK hP i (wat_0 hi) rfl 1 (by decide) (hts _ wf_0_15) (fun _ h => h) rfl hdg (kk H locs ls hl hP hS)
theorem wf_6_37 : Cond.fieldLinkNest RX6 37 "PieFunnels$Bakery" "kinds" "[I" "PieFunnels" ∈ fk_nests := List.mem_of_getElem? (i := 2) (by decide +kernel)
theorem f_6_37 {g : fkG} {k : fkK} {ρ : Type} {en : ρ → Option Value} {cc : ByteArray} {nL fr lo pc : Nat} {ret : Option FieldType} {lv : List (Nat × Value)} {stk : List Value} {st : fkS} {F : Option (ρ × fkS)} (hk : fk_ok wC g k RX6 cc nL ret fr lo) {i : Nat} (hi : kdC i = 0) (hdg : decode cc pc = .ok (.getfield 37, 3))
    (kk : fk_J wC g en k (pc + 3) lv (fk_r g (i + 3) :: stk) st F) : fk_J wC g en k pc lv (fk_r g i :: stk) st F := by
  intro o ho hq
  have kk := kk o ho hq
  obtain ⟨p, l, e, R, s, m, args, below, meth, c, rv, sf⟩ := k
  obtain ⟨hx, hb, hml, hown, hts, hK, hE, hr, hlk, hinj, hfr, hlo⟩ := hk
  intro H locs ls hl hP hS
  exact va_getN (D := g.2.1) (ci := 0) (C := RX0) (T := TX0) (N := 11) (v := fk_r g (i + 3)) hx hb hts wB_0 hown hK hP i (wat_0 hi) rfl 1 (by decide) (va_Nw.use rfl (hE.1 _ wf_6_37)) (fun _ h => h) rfl hdg (kk H locs ls hl hP hS)
theorem wf_1_34 : Cond.fieldLinkNest RX1 34 "PieFunnels$Bakery" "kinds" "[I" "PieFunnels" ∈ fk_nests := List.mem_of_getElem? (i := 3) (by decide +kernel)
theorem f_1_34 {g : fkG} {k : fkK} {ρ : Type} {en : ρ → Option Value} {cc : ByteArray} {nL fr lo pc : Nat} {ret : Option FieldType} {lv : List (Nat × Value)} {stk : List Value} {st : fkS} {F : Option (ρ × fkS)} (hk : fk_ok wC g k RX1 cc nL ret fr lo) {i : Nat} (hi : kdC i = 0) (hdg : decode cc pc = .ok (.getfield 34, 3))
    (kk : fk_J wC g en k (pc + 3) lv (fk_r g (i + 3) :: stk) st F) : fk_J wC g en k pc lv (fk_r g i :: stk) st F := by
  intro o ho hq
  have kk := kk o ho hq
  obtain ⟨p, l, e, R, s, m, args, below, meth, c, rv, sf⟩ := k
  obtain ⟨hx, hb, hml, hown, hts, hK, hE, hr, hlk, hinj, hfr, hlo⟩ := hk
  intro H locs ls hl hP hS
  exact va_getN (D := g.2.1) (ci := 0) (C := RX0) (T := TX0) (N := 11) (v := fk_r g (i + 3)) hx hb hts wB_0 hown hK hP i (wat_0 hi) rfl 1 (by decide) (va_Nw.use rfl (hE.1 _ wf_1_34)) (fun _ h => h) rfl hdg (kk H locs ls hl hP hS)
theorem wf_7_142 : Cond.fieldLinkNest RX7 142 "PieFunnels$Bakery" "kinds" "[I" "PieFunnels" ∈ fk_nests := List.mem_of_getElem? (i := 4) (by decide +kernel)
theorem f_7_142 {g : fkG} {k : fkK} {ρ : Type} {en : ρ → Option Value} {cc : ByteArray} {nL fr lo pc : Nat} {ret : Option FieldType} {lv : List (Nat × Value)} {stk : List Value} {st : fkS} {F : Option (ρ × fkS)} (hk : fk_ok wC g k RX7 cc nL ret fr lo) {i : Nat} (hi : kdC i = 0) (hdg : decode cc pc = .ok (.getfield 142, 3))
    (kk : fk_J wC g en k (pc + 3) lv (fk_r g (i + 3) :: stk) st F) : fk_J wC g en k pc lv (fk_r g i :: stk) st F := by
  intro o ho hq
  have kk := kk o ho hq
  obtain ⟨p, l, e, R, s, m, args, below, meth, c, rv, sf⟩ := k
  obtain ⟨hx, hb, hml, hown, hts, hK, hE, hr, hlk, hinj, hfr, hlo⟩ := hk
  intro H locs ls hl hP hS
  exact va_getN (D := g.2.1) (ci := 0) (C := RX0) (T := TX0) (N := 11) (v := fk_r g (i + 3)) hx hb hts wB_0 hown hK hP i (wat_0 hi) rfl 1 (by decide) (va_Nw.use rfl (hE.1 _ wf_7_142)) (fun _ h => h) rfl hdg (kk H locs ls hl hP hS)
theorem wf_0_19 : Cond.fieldLink RX0 19 "PieFunnels$Bakery" "as" "[I" ∈ fkB := fkB_in (List.mem_of_getElem? (i := 142) (by decide +kernel)) rfl
theorem f_0_19 {g : fkG} {k : fkK} {ρ : Type} {en : ρ → Option Value} {cc : ByteArray} {nL fr lo pc : Nat} {ret : Option FieldType} {lv : List (Nat × Value)} {stk : List Value} {st : fkS} {F : Option (ρ × fkS)} (hk : fk_ok wC g k RX0 cc nL ret fr lo) {i : Nat} (hi : kdC i = 0) (hdg : decode cc pc = .ok (.getfield 19, 3))
    (kk : fk_J wC g en k (pc + 3) lv (fk_r g (i + 6) :: stk) st F) : fk_J wC g en k pc lv (fk_r g i :: stk) st F := by
  intro o ho hq
  have kk := kk o ho hq
  obtain ⟨p, l, e, R, s, m, args, below, meth, c, rv, sf⟩ := k
  obtain ⟨hx, hb, hml, hown, hts, hK, hE, hr, hlk, hinj, hfr, hlo⟩ := hk
  intro H locs ls hl hP hS
  exact va_get (D := g.2.1) (ci := 0) (C := RX0) (T := TX0) (N := 11) (v := fk_r g (i + 6)) hx hb hts wB_0 hown hK hP i (wat_0 hi) rfl 2 (by decide) (hts _ wf_0_19) (fun _ h => h) rfl hdg (kk H locs ls hl hP hS)
theorem wf_6_40 : Cond.fieldLinkNest RX6 40 "PieFunnels$Bakery" "as" "[I" "PieFunnels" ∈ fk_nests := List.mem_of_getElem? (i := 5) (by decide +kernel)
theorem f_6_40 {g : fkG} {k : fkK} {ρ : Type} {en : ρ → Option Value} {cc : ByteArray} {nL fr lo pc : Nat} {ret : Option FieldType} {lv : List (Nat × Value)} {stk : List Value} {st : fkS} {F : Option (ρ × fkS)} (hk : fk_ok wC g k RX6 cc nL ret fr lo) {i : Nat} (hi : kdC i = 0) (hdg : decode cc pc = .ok (.getfield 40, 3))
    (kk : fk_J wC g en k (pc + 3) lv (fk_r g (i + 6) :: stk) st F) : fk_J wC g en k pc lv (fk_r g i :: stk) st F := by
  intro o ho hq
  have kk := kk o ho hq
  obtain ⟨p, l, e, R, s, m, args, below, meth, c, rv, sf⟩ := k
  obtain ⟨hx, hb, hml, hown, hts, hK, hE, hr, hlk, hinj, hfr, hlo⟩ := hk
  intro H locs ls hl hP hS
  exact va_getN (D := g.2.1) (ci := 0) (C := RX0) (T := TX0) (N := 11) (v := fk_r g (i + 6)) hx hb hts wB_0 hown hK hP i (wat_0 hi) rfl 2 (by decide) (va_Nw.use rfl (hE.1 _ wf_6_40)) (fun _ h => h) rfl hdg (kk H locs ls hl hP hS)
theorem wf_1_37 : Cond.fieldLinkNest RX1 37 "PieFunnels$Bakery" "as" "[I" "PieFunnels" ∈ fk_nests := List.mem_of_getElem? (i := 6) (by decide +kernel)
theorem f_1_37 {g : fkG} {k : fkK} {ρ : Type} {en : ρ → Option Value} {cc : ByteArray} {nL fr lo pc : Nat} {ret : Option FieldType} {lv : List (Nat × Value)} {stk : List Value} {st : fkS} {F : Option (ρ × fkS)} (hk : fk_ok wC g k RX1 cc nL ret fr lo) {i : Nat} (hi : kdC i = 0) (hdg : decode cc pc = .ok (.getfield 37, 3))
    (kk : fk_J wC g en k (pc + 3) lv (fk_r g (i + 6) :: stk) st F) : fk_J wC g en k pc lv (fk_r g i :: stk) st F := by
  intro o ho hq
  have kk := kk o ho hq
  obtain ⟨p, l, e, R, s, m, args, below, meth, c, rv, sf⟩ := k
  obtain ⟨hx, hb, hml, hown, hts, hK, hE, hr, hlk, hinj, hfr, hlo⟩ := hk
  intro H locs ls hl hP hS
  exact va_getN (D := g.2.1) (ci := 0) (C := RX0) (T := TX0) (N := 11) (v := fk_r g (i + 6)) hx hb hts wB_0 hown hK hP i (wat_0 hi) rfl 2 (by decide) (va_Nw.use rfl (hE.1 _ wf_1_37)) (fun _ h => h) rfl hdg (kk H locs ls hl hP hS)
theorem wf_7_193 : Cond.fieldLinkNest RX7 193 "PieFunnels$Bakery" "as" "[I" "PieFunnels" ∈ fk_nests := List.mem_of_getElem? (i := 7) (by decide +kernel)
theorem f_7_193 {g : fkG} {k : fkK} {ρ : Type} {en : ρ → Option Value} {cc : ByteArray} {nL fr lo pc : Nat} {ret : Option FieldType} {lv : List (Nat × Value)} {stk : List Value} {st : fkS} {F : Option (ρ × fkS)} (hk : fk_ok wC g k RX7 cc nL ret fr lo) {i : Nat} (hi : kdC i = 0) (hdg : decode cc pc = .ok (.getfield 193, 3))
    (kk : fk_J wC g en k (pc + 3) lv (fk_r g (i + 6) :: stk) st F) : fk_J wC g en k pc lv (fk_r g i :: stk) st F := by
  intro o ho hq
  have kk := kk o ho hq
  obtain ⟨p, l, e, R, s, m, args, below, meth, c, rv, sf⟩ := k
  obtain ⟨hx, hb, hml, hown, hts, hK, hE, hr, hlk, hinj, hfr, hlo⟩ := hk
  intro H locs ls hl hP hS
  exact va_getN (D := g.2.1) (ci := 0) (C := RX0) (T := TX0) (N := 11) (v := fk_r g (i + 6)) hx hb hts wB_0 hown hK hP i (wat_0 hi) rfl 2 (by decide) (va_Nw.use rfl (hE.1 _ wf_7_193)) (fun _ h => h) rfl hdg (kk H locs ls hl hP hS)
theorem wf_0_22 : Cond.fieldLink RX0 22 "PieFunnels$Bakery" "mouths" "[I" ∈ fkB := fkB_in (List.mem_of_getElem? (i := 146) (by decide +kernel)) rfl
theorem f_0_22 {g : fkG} {k : fkK} {ρ : Type} {en : ρ → Option Value} {cc : ByteArray} {nL fr lo pc : Nat} {ret : Option FieldType} {lv : List (Nat × Value)} {stk : List Value} {st : fkS} {F : Option (ρ × fkS)} (hk : fk_ok wC g k RX0 cc nL ret fr lo) {i : Nat} (hi : kdC i = 0) (hdg : decode cc pc = .ok (.getfield 22, 3))
    (kk : fk_J wC g en k (pc + 3) lv (fk_r g (i + 9) :: stk) st F) : fk_J wC g en k pc lv (fk_r g i :: stk) st F := by
  intro o ho hq
  have kk := kk o ho hq
  obtain ⟨p, l, e, R, s, m, args, below, meth, c, rv, sf⟩ := k
  obtain ⟨hx, hb, hml, hown, hts, hK, hE, hr, hlk, hinj, hfr, hlo⟩ := hk
  intro H locs ls hl hP hS
  exact va_get (D := g.2.1) (ci := 0) (C := RX0) (T := TX0) (N := 11) (v := fk_r g (i + 9)) hx hb hts wB_0 hown hK hP i (wat_0 hi) rfl 3 (by decide) (hts _ wf_0_22) (fun _ h => h) rfl hdg (kk H locs ls hl hP hS)
theorem wf_6_43 : Cond.fieldLinkNest RX6 43 "PieFunnels$Bakery" "mouths" "[I" "PieFunnels" ∈ fk_nests := List.mem_of_getElem? (i := 8) (by decide +kernel)
theorem f_6_43 {g : fkG} {k : fkK} {ρ : Type} {en : ρ → Option Value} {cc : ByteArray} {nL fr lo pc : Nat} {ret : Option FieldType} {lv : List (Nat × Value)} {stk : List Value} {st : fkS} {F : Option (ρ × fkS)} (hk : fk_ok wC g k RX6 cc nL ret fr lo) {i : Nat} (hi : kdC i = 0) (hdg : decode cc pc = .ok (.getfield 43, 3))
    (kk : fk_J wC g en k (pc + 3) lv (fk_r g (i + 9) :: stk) st F) : fk_J wC g en k pc lv (fk_r g i :: stk) st F := by
  intro o ho hq
  have kk := kk o ho hq
  obtain ⟨p, l, e, R, s, m, args, below, meth, c, rv, sf⟩ := k
  obtain ⟨hx, hb, hml, hown, hts, hK, hE, hr, hlk, hinj, hfr, hlo⟩ := hk
  intro H locs ls hl hP hS
  exact va_getN (D := g.2.1) (ci := 0) (C := RX0) (T := TX0) (N := 11) (v := fk_r g (i + 9)) hx hb hts wB_0 hown hK hP i (wat_0 hi) rfl 3 (by decide) (va_Nw.use rfl (hE.1 _ wf_6_43)) (fun _ h => h) rfl hdg (kk H locs ls hl hP hS)
theorem wf_7_196 : Cond.fieldLinkNest RX7 196 "PieFunnels$Bakery" "mouths" "[I" "PieFunnels" ∈ fk_nests := List.mem_of_getElem? (i := 9) (by decide +kernel)
theorem f_7_196 {g : fkG} {k : fkK} {ρ : Type} {en : ρ → Option Value} {cc : ByteArray} {nL fr lo pc : Nat} {ret : Option FieldType} {lv : List (Nat × Value)} {stk : List Value} {st : fkS} {F : Option (ρ × fkS)} (hk : fk_ok wC g k RX7 cc nL ret fr lo) {i : Nat} (hi : kdC i = 0) (hdg : decode cc pc = .ok (.getfield 196, 3))
    (kk : fk_J wC g en k (pc + 3) lv (fk_r g (i + 9) :: stk) st F) : fk_J wC g en k pc lv (fk_r g i :: stk) st F := by
  intro o ho hq
  have kk := kk o ho hq
  obtain ⟨p, l, e, R, s, m, args, below, meth, c, rv, sf⟩ := k
  obtain ⟨hx, hb, hml, hown, hts, hK, hE, hr, hlk, hinj, hfr, hlo⟩ := hk
  intro H locs ls hl hP hS
  exact va_getN (D := g.2.1) (ci := 0) (C := RX0) (T := TX0) (N := 11) (v := fk_r g (i + 9)) hx hb hts wB_0 hown hK hP i (wat_0 hi) rfl 3 (by decide) (va_Nw.use rfl (hE.1 _ wf_7_196)) (fun _ h => h) rfl hdg (kk H locs ls hl hP hS)
theorem wf_0_25 : Cond.fieldLink RX0 25 "PieFunnels$Bakery" "table" "[I" ∈ fkB := fkB_in (List.mem_of_getElem? (i := 149) (by decide +kernel)) rfl
theorem f_0_25 {g : fkG} {k : fkK} {ρ : Type} {en : ρ → Option Value} {cc : ByteArray} {nL fr lo pc : Nat} {ret : Option FieldType} {lv : List (Nat × Value)} {stk : List Value} {st : fkS} {F : Option (ρ × fkS)} (hk : fk_ok wC g k RX0 cc nL ret fr lo) {i : Nat} (hi : kdC i = 0) (hdg : decode cc pc = .ok (.getfield 25, 3))
    (kk : fk_J wC g en k (pc + 3) lv (fk_r g (i + 12) :: stk) st F) : fk_J wC g en k pc lv (fk_r g i :: stk) st F := by
  intro o ho hq
  have kk := kk o ho hq
  obtain ⟨p, l, e, R, s, m, args, below, meth, c, rv, sf⟩ := k
  obtain ⟨hx, hb, hml, hown, hts, hK, hE, hr, hlk, hinj, hfr, hlo⟩ := hk
  intro H locs ls hl hP hS
  exact va_get (D := g.2.1) (ci := 0) (C := RX0) (T := TX0) (N := 11) (v := fk_r g (i + 12)) hx hb hts wB_0 hown hK hP i (wat_0 hi) rfl 4 (by decide) (hts _ wf_0_25) (fun _ h => h) rfl hdg (kk H locs ls hl hP hS)
theorem wf_0_28 : Cond.fieldLink RX0 28 "PieFunnels$Bakery" "heat" "I" ∈ fkB := fkB_in (List.mem_of_getElem? (i := 150) (by decide +kernel)) rfl
theorem f_0_28 {g : fkG} {k : fkK} {ρ : Type} {en : ρ → Option Value} {cc : ByteArray} {nL fr lo pc : Nat} {ret : Option FieldType} {lv : List (Nat × Value)} {stk : List Value} {st : fkS} (hk : fk_ok wC g k RX0 cc nL ret fr lo) {i : Nat} {F1 : Int32 → Option (ρ × fkS)} (hi : kdC i = 0) (hdg : decode cc pc = .ok (.getfield 28, 3))
    (kk : ∀ x, fk_J wC g en k (pc + 3) lv (.int x :: stk) st (F1 x)) : fk_J wC g en k pc lv (fk_r g i :: stk) st (fk_let (gI st 5 i) F1) := by
  intro o ho hq
  have kk := kk (gI st 5 i) o ho hq
  obtain ⟨p, l, e, R, s, m, args, below, meth, c, rv, sf⟩ := k
  obtain ⟨hx, hb, hml, hown, hts, hK, hE, hr, hlk, hinj, hfr, hlo⟩ := hk
  intro H locs ls hl hP hS
  exact va_get (D := g.2.1) (ci := 0) (C := RX0) (T := TX0) (N := 11) (v := .int (gI st 5 i)) hx hb hts wB_0 hown hK hP i (wat_0 hi) rfl 5 (by decide) (hts _ wf_0_28) (fun _ h => h) rfl hdg (kk H locs ls hl hP hS)
theorem p_0_28 {g : fkG} {k : fkK} {ρ : Type} {en : ρ → Option Value} {cc : ByteArray} {nL fr lo pc : Nat} {ret : Option FieldType} {lv : List (Nat × Value)} {stk : List Value} {st : fkS} (hk : fk_ok wC g k RX0 cc nL ret fr lo) {i : Nat} {v : Int32} {F1 : fkS → Option (ρ × fkS)} (hi : kdC i = 0) (hdg : decode cc pc = .ok (.putfield 28, 3))
    (kk : ∀ st1, fk_J wC g en k (pc + 3) lv stk st1 (F1 st1)) : fk_J wC g en k pc lv (.int v :: fk_r g i :: stk) st (fk_let (sI st 5 i v) F1) := by
  intro o ho hq
  have kk := kk (sI st 5 i v) o ho hq
  obtain ⟨p, l, e, R, s, m, args, below, meth, c, rv, sf⟩ := k
  obtain ⟨hx, hb, hml, hown, hts, hK, hE, hr, hlk, hinj, hfr, hlo⟩ := hk
  intro H locs ls hl hP hS
  refine va_put (D := g.2.1) (ci := 0) (C := RX0) (T := TX0) (N := 11) (v := .int v) (ty := .int) hx hb hts wB_0 tyX0 tyX0_ok nmX0 hown hK hP (fk_wD hinj _ _) hS i (wat_0 hi) rfl 5 (by decide) (hts _ wf_0_28) (fun _ h => h) rfl (by decide +kernel) rfl rfl (Nat.le_of_ble_eq_true rfl) hdg (fun H1 locs1 hP1 hD1 hS1 => kk H1 locs1 ls hl ?_ hS1)
  rw [← wst_0_5 hi]
  exact hP1
theorem wf_6_46 : Cond.fieldLinkNest RX6 46 "PieFunnels$Bakery" "heat" "I" "PieFunnels" ∈ fk_nests := List.mem_of_getElem? (i := 10) (by decide +kernel)
theorem f_6_46 {g : fkG} {k : fkK} {ρ : Type} {en : ρ → Option Value} {cc : ByteArray} {nL fr lo pc : Nat} {ret : Option FieldType} {lv : List (Nat × Value)} {stk : List Value} {st : fkS} (hk : fk_ok wC g k RX6 cc nL ret fr lo) {i : Nat} {F1 : Int32 → Option (ρ × fkS)} (hi : kdC i = 0) (hdg : decode cc pc = .ok (.getfield 46, 3))
    (kk : ∀ x, fk_J wC g en k (pc + 3) lv (.int x :: stk) st (F1 x)) : fk_J wC g en k pc lv (fk_r g i :: stk) st (fk_let (gI st 5 i) F1) := by
  intro o ho hq
  have kk := kk (gI st 5 i) o ho hq
  obtain ⟨p, l, e, R, s, m, args, below, meth, c, rv, sf⟩ := k
  obtain ⟨hx, hb, hml, hown, hts, hK, hE, hr, hlk, hinj, hfr, hlo⟩ := hk
  intro H locs ls hl hP hS
  exact va_getN (D := g.2.1) (ci := 0) (C := RX0) (T := TX0) (N := 11) (v := .int (gI st 5 i)) hx hb hts wB_0 hown hK hP i (wat_0 hi) rfl 5 (by decide) (va_Nw.use rfl (hE.1 _ wf_6_46)) (fun _ h => h) rfl hdg (kk H locs ls hl hP hS)
theorem p_6_46 {g : fkG} {k : fkK} {ρ : Type} {en : ρ → Option Value} {cc : ByteArray} {nL fr lo pc : Nat} {ret : Option FieldType} {lv : List (Nat × Value)} {stk : List Value} {st : fkS} (hk : fk_ok wC g k RX6 cc nL ret fr lo) {i : Nat} {v : Int32} {F1 : fkS → Option (ρ × fkS)} (hi : kdC i = 0) (hdg : decode cc pc = .ok (.putfield 46, 3))
    (kk : ∀ st1, fk_J wC g en k (pc + 3) lv stk st1 (F1 st1)) : fk_J wC g en k pc lv (.int v :: fk_r g i :: stk) st (fk_let (sI st 5 i v) F1) := by
  intro o ho hq
  have kk := kk (sI st 5 i v) o ho hq
  obtain ⟨p, l, e, R, s, m, args, below, meth, c, rv, sf⟩ := k
  obtain ⟨hx, hb, hml, hown, hts, hK, hE, hr, hlk, hinj, hfr, hlo⟩ := hk
  intro H locs ls hl hP hS
  refine va_putN (D := g.2.1) (ci := 0) (C := RX0) (T := TX0) (N := 11) (v := .int v) (ty := .int) hx hb hts wB_0 tyX0 tyX0_ok nmX0 hown hK hP (fk_wD hinj _ _) hS i (wat_0 hi) rfl 5 (by decide) (va_Nw.use rfl (hE.1 _ wf_6_46)) (fun _ h => h) rfl (by decide +kernel) rfl rfl (Nat.le_of_ble_eq_true rfl) hdg (fun H1 locs1 hP1 hD1 hS1 => kk H1 locs1 ls hl ?_ hS1)
  rw [← wst_0_5 hi]
  exact hP1
theorem wf_4_88 : Cond.fieldLinkNest RX4 88 "PieFunnels$Bakery" "heat" "I" "PieFunnels" ∈ fk_nests := List.mem_of_getElem? (i := 11) (by decide +kernel)
theorem f_4_88 {g : fkG} {k : fkK} {ρ : Type} {en : ρ → Option Value} {cc : ByteArray} {nL fr lo pc : Nat} {ret : Option FieldType} {lv : List (Nat × Value)} {stk : List Value} {st : fkS} (hk : fk_ok wC g k RX4 cc nL ret fr lo) {i : Nat} {F1 : Int32 → Option (ρ × fkS)} (hi : kdC i = 0) (hdg : decode cc pc = .ok (.getfield 88, 3))
    (kk : ∀ x, fk_J wC g en k (pc + 3) lv (.int x :: stk) st (F1 x)) : fk_J wC g en k pc lv (fk_r g i :: stk) st (fk_let (gI st 5 i) F1) := by
  intro o ho hq
  have kk := kk (gI st 5 i) o ho hq
  obtain ⟨p, l, e, R, s, m, args, below, meth, c, rv, sf⟩ := k
  obtain ⟨hx, hb, hml, hown, hts, hK, hE, hr, hlk, hinj, hfr, hlo⟩ := hk
  intro H locs ls hl hP hS
  exact va_getN (D := g.2.1) (ci := 0) (C := RX0) (T := TX0) (N := 11) (v := .int (gI st 5 i)) hx hb hts wB_0 hown hK hP i (wat_0 hi) rfl 5 (by decide) (va_Nw.use rfl (hE.1 _ wf_4_88)) (fun _ h => h) rfl hdg (kk H locs ls hl hP hS)
theorem p_4_88 {g : fkG} {k : fkK} {ρ : Type} {en : ρ → Option Value} {cc : ByteArray} {nL fr lo pc : Nat} {ret : Option FieldType} {lv : List (Nat × Value)} {stk : List Value} {st : fkS} (hk : fk_ok wC g k RX4 cc nL ret fr lo) {i : Nat} {v : Int32} {F1 : fkS → Option (ρ × fkS)} (hi : kdC i = 0) (hdg : decode cc pc = .ok (.putfield 88, 3))
    (kk : ∀ st1, fk_J wC g en k (pc + 3) lv stk st1 (F1 st1)) : fk_J wC g en k pc lv (.int v :: fk_r g i :: stk) st (fk_let (sI st 5 i v) F1) := by
  intro o ho hq
  have kk := kk (sI st 5 i v) o ho hq
  obtain ⟨p, l, e, R, s, m, args, below, meth, c, rv, sf⟩ := k
  obtain ⟨hx, hb, hml, hown, hts, hK, hE, hr, hlk, hinj, hfr, hlo⟩ := hk
  intro H locs ls hl hP hS
  refine va_putN (D := g.2.1) (ci := 0) (C := RX0) (T := TX0) (N := 11) (v := .int v) (ty := .int) hx hb hts wB_0 tyX0 tyX0_ok nmX0 hown hK hP (fk_wD hinj _ _) hS i (wat_0 hi) rfl 5 (by decide) (va_Nw.use rfl (hE.1 _ wf_4_88)) (fun _ h => h) rfl (by decide +kernel) rfl rfl (Nat.le_of_ble_eq_true rfl) hdg (fun H1 locs1 hP1 hD1 hS1 => kk H1 locs1 ls hl ?_ hS1)
  rw [← wst_0_5 hi]
  exact hP1
theorem wf_7_178 : Cond.fieldLinkNest RX7 178 "PieFunnels$Bakery" "heat" "I" "PieFunnels" ∈ fk_nests := List.mem_of_getElem? (i := 12) (by decide +kernel)
theorem f_7_178 {g : fkG} {k : fkK} {ρ : Type} {en : ρ → Option Value} {cc : ByteArray} {nL fr lo pc : Nat} {ret : Option FieldType} {lv : List (Nat × Value)} {stk : List Value} {st : fkS} (hk : fk_ok wC g k RX7 cc nL ret fr lo) {i : Nat} {F1 : Int32 → Option (ρ × fkS)} (hi : kdC i = 0) (hdg : decode cc pc = .ok (.getfield 178, 3))
    (kk : ∀ x, fk_J wC g en k (pc + 3) lv (.int x :: stk) st (F1 x)) : fk_J wC g en k pc lv (fk_r g i :: stk) st (fk_let (gI st 5 i) F1) := by
  intro o ho hq
  have kk := kk (gI st 5 i) o ho hq
  obtain ⟨p, l, e, R, s, m, args, below, meth, c, rv, sf⟩ := k
  obtain ⟨hx, hb, hml, hown, hts, hK, hE, hr, hlk, hinj, hfr, hlo⟩ := hk
  intro H locs ls hl hP hS
  exact va_getN (D := g.2.1) (ci := 0) (C := RX0) (T := TX0) (N := 11) (v := .int (gI st 5 i)) hx hb hts wB_0 hown hK hP i (wat_0 hi) rfl 5 (by decide) (va_Nw.use rfl (hE.1 _ wf_7_178)) (fun _ h => h) rfl hdg (kk H locs ls hl hP hS)
theorem p_7_178 {g : fkG} {k : fkK} {ρ : Type} {en : ρ → Option Value} {cc : ByteArray} {nL fr lo pc : Nat} {ret : Option FieldType} {lv : List (Nat × Value)} {stk : List Value} {st : fkS} (hk : fk_ok wC g k RX7 cc nL ret fr lo) {i : Nat} {v : Int32} {F1 : fkS → Option (ρ × fkS)} (hi : kdC i = 0) (hdg : decode cc pc = .ok (.putfield 178, 3))
    (kk : ∀ st1, fk_J wC g en k (pc + 3) lv stk st1 (F1 st1)) : fk_J wC g en k pc lv (.int v :: fk_r g i :: stk) st (fk_let (sI st 5 i v) F1) := by
  intro o ho hq
  have kk := kk (sI st 5 i v) o ho hq
  obtain ⟨p, l, e, R, s, m, args, below, meth, c, rv, sf⟩ := k
  obtain ⟨hx, hb, hml, hown, hts, hK, hE, hr, hlk, hinj, hfr, hlo⟩ := hk
  intro H locs ls hl hP hS
  refine va_putN (D := g.2.1) (ci := 0) (C := RX0) (T := TX0) (N := 11) (v := .int v) (ty := .int) hx hb hts wB_0 tyX0 tyX0_ok nmX0 hown hK hP (fk_wD hinj _ _) hS i (wat_0 hi) rfl 5 (by decide) (va_Nw.use rfl (hE.1 _ wf_7_178)) (fun _ h => h) rfl (by decide +kernel) rfl rfl (Nat.le_of_ble_eq_true rfl) hdg (fun H1 locs1 hP1 hD1 hS1 => kk H1 locs1 ls hl ?_ hS1)
  rw [← wst_0_5 hi]
  exact hP1
theorem wf_0_31 : Cond.fieldLink RX0 31 "PieFunnels$Bakery" "state" "I" ∈ fkB := fkB_in (List.mem_of_getElem? (i := 154) (by decide +kernel)) rfl
theorem f_0_31 {g : fkG} {k : fkK} {ρ : Type} {en : ρ → Option Value} {cc : ByteArray} {nL fr lo pc : Nat} {ret : Option FieldType} {lv : List (Nat × Value)} {stk : List Value} {st : fkS} (hk : fk_ok wC g k RX0 cc nL ret fr lo) {i : Nat} {F1 : Int32 → Option (ρ × fkS)} (hi : kdC i = 0) (hdg : decode cc pc = .ok (.getfield 31, 3))
    (kk : ∀ x, fk_J wC g en k (pc + 3) lv (.int x :: stk) st (F1 x)) : fk_J wC g en k pc lv (fk_r g i :: stk) st (fk_let (gI st 6 i) F1) := by
  intro o ho hq
  have kk := kk (gI st 6 i) o ho hq
  obtain ⟨p, l, e, R, s, m, args, below, meth, c, rv, sf⟩ := k
  obtain ⟨hx, hb, hml, hown, hts, hK, hE, hr, hlk, hinj, hfr, hlo⟩ := hk
  intro H locs ls hl hP hS
  exact va_get (D := g.2.1) (ci := 0) (C := RX0) (T := TX0) (N := 11) (v := .int (gI st 6 i)) hx hb hts wB_0 hown hK hP i (wat_0 hi) rfl 6 (by decide) (hts _ wf_0_31) (fun _ h => h) rfl hdg (kk H locs ls hl hP hS)
theorem p_0_31 {g : fkG} {k : fkK} {ρ : Type} {en : ρ → Option Value} {cc : ByteArray} {nL fr lo pc : Nat} {ret : Option FieldType} {lv : List (Nat × Value)} {stk : List Value} {st : fkS} (hk : fk_ok wC g k RX0 cc nL ret fr lo) {i : Nat} {v : Int32} {F1 : fkS → Option (ρ × fkS)} (hi : kdC i = 0) (hdg : decode cc pc = .ok (.putfield 31, 3))
    (kk : ∀ st1, fk_J wC g en k (pc + 3) lv stk st1 (F1 st1)) : fk_J wC g en k pc lv (.int v :: fk_r g i :: stk) st (fk_let (sI st 6 i v) F1) := by
  intro o ho hq
  have kk := kk (sI st 6 i v) o ho hq
  obtain ⟨p, l, e, R, s, m, args, below, meth, c, rv, sf⟩ := k
  obtain ⟨hx, hb, hml, hown, hts, hK, hE, hr, hlk, hinj, hfr, hlo⟩ := hk
  intro H locs ls hl hP hS
  refine va_put (D := g.2.1) (ci := 0) (C := RX0) (T := TX0) (N := 11) (v := .int v) (ty := .int) hx hb hts wB_0 tyX0 tyX0_ok nmX0 hown hK hP (fk_wD hinj _ _) hS i (wat_0 hi) rfl 6 (by decide) (hts _ wf_0_31) (fun _ h => h) rfl (by decide +kernel) rfl rfl (Nat.le_of_ble_eq_true rfl) hdg (fun H1 locs1 hP1 hD1 hS1 => kk H1 locs1 ls hl ?_ hS1)
  rw [← wst_0_6 hi]
  exact hP1
theorem wf_4_91 : Cond.fieldLinkNest RX4 91 "PieFunnels$Bakery" "state" "I" "PieFunnels" ∈ fk_nests := List.mem_of_getElem? (i := 13) (by decide +kernel)
theorem f_4_91 {g : fkG} {k : fkK} {ρ : Type} {en : ρ → Option Value} {cc : ByteArray} {nL fr lo pc : Nat} {ret : Option FieldType} {lv : List (Nat × Value)} {stk : List Value} {st : fkS} (hk : fk_ok wC g k RX4 cc nL ret fr lo) {i : Nat} {F1 : Int32 → Option (ρ × fkS)} (hi : kdC i = 0) (hdg : decode cc pc = .ok (.getfield 91, 3))
    (kk : ∀ x, fk_J wC g en k (pc + 3) lv (.int x :: stk) st (F1 x)) : fk_J wC g en k pc lv (fk_r g i :: stk) st (fk_let (gI st 6 i) F1) := by
  intro o ho hq
  have kk := kk (gI st 6 i) o ho hq
  obtain ⟨p, l, e, R, s, m, args, below, meth, c, rv, sf⟩ := k
  obtain ⟨hx, hb, hml, hown, hts, hK, hE, hr, hlk, hinj, hfr, hlo⟩ := hk
  intro H locs ls hl hP hS
  exact va_getN (D := g.2.1) (ci := 0) (C := RX0) (T := TX0) (N := 11) (v := .int (gI st 6 i)) hx hb hts wB_0 hown hK hP i (wat_0 hi) rfl 6 (by decide) (va_Nw.use rfl (hE.1 _ wf_4_91)) (fun _ h => h) rfl hdg (kk H locs ls hl hP hS)
theorem p_4_91 {g : fkG} {k : fkK} {ρ : Type} {en : ρ → Option Value} {cc : ByteArray} {nL fr lo pc : Nat} {ret : Option FieldType} {lv : List (Nat × Value)} {stk : List Value} {st : fkS} (hk : fk_ok wC g k RX4 cc nL ret fr lo) {i : Nat} {v : Int32} {F1 : fkS → Option (ρ × fkS)} (hi : kdC i = 0) (hdg : decode cc pc = .ok (.putfield 91, 3))
    (kk : ∀ st1, fk_J wC g en k (pc + 3) lv stk st1 (F1 st1)) : fk_J wC g en k pc lv (.int v :: fk_r g i :: stk) st (fk_let (sI st 6 i v) F1) := by
  intro o ho hq
  have kk := kk (sI st 6 i v) o ho hq
  obtain ⟨p, l, e, R, s, m, args, below, meth, c, rv, sf⟩ := k
  obtain ⟨hx, hb, hml, hown, hts, hK, hE, hr, hlk, hinj, hfr, hlo⟩ := hk
  intro H locs ls hl hP hS
  refine va_putN (D := g.2.1) (ci := 0) (C := RX0) (T := TX0) (N := 11) (v := .int v) (ty := .int) hx hb hts wB_0 tyX0 tyX0_ok nmX0 hown hK hP (fk_wD hinj _ _) hS i (wat_0 hi) rfl 6 (by decide) (va_Nw.use rfl (hE.1 _ wf_4_91)) (fun _ h => h) rfl (by decide +kernel) rfl rfl (Nat.le_of_ble_eq_true rfl) hdg (fun H1 locs1 hP1 hD1 hS1 => kk H1 locs1 ls hl ?_ hS1)
  rw [← wst_0_6 hi]
  exact hP1
theorem wf_7_181 : Cond.fieldLinkNest RX7 181 "PieFunnels$Bakery" "state" "I" "PieFunnels" ∈ fk_nests := List.mem_of_getElem? (i := 14) (by decide +kernel)
theorem f_7_181 {g : fkG} {k : fkK} {ρ : Type} {en : ρ → Option Value} {cc : ByteArray} {nL fr lo pc : Nat} {ret : Option FieldType} {lv : List (Nat × Value)} {stk : List Value} {st : fkS} (hk : fk_ok wC g k RX7 cc nL ret fr lo) {i : Nat} {F1 : Int32 → Option (ρ × fkS)} (hi : kdC i = 0) (hdg : decode cc pc = .ok (.getfield 181, 3))
    (kk : ∀ x, fk_J wC g en k (pc + 3) lv (.int x :: stk) st (F1 x)) : fk_J wC g en k pc lv (fk_r g i :: stk) st (fk_let (gI st 6 i) F1) := by
  intro o ho hq
  have kk := kk (gI st 6 i) o ho hq
  obtain ⟨p, l, e, R, s, m, args, below, meth, c, rv, sf⟩ := k
  obtain ⟨hx, hb, hml, hown, hts, hK, hE, hr, hlk, hinj, hfr, hlo⟩ := hk
  intro H locs ls hl hP hS
  exact va_getN (D := g.2.1) (ci := 0) (C := RX0) (T := TX0) (N := 11) (v := .int (gI st 6 i)) hx hb hts wB_0 hown hK hP i (wat_0 hi) rfl 6 (by decide) (va_Nw.use rfl (hE.1 _ wf_7_181)) (fun _ h => h) rfl hdg (kk H locs ls hl hP hS)
theorem p_7_181 {g : fkG} {k : fkK} {ρ : Type} {en : ρ → Option Value} {cc : ByteArray} {nL fr lo pc : Nat} {ret : Option FieldType} {lv : List (Nat × Value)} {stk : List Value} {st : fkS} (hk : fk_ok wC g k RX7 cc nL ret fr lo) {i : Nat} {v : Int32} {F1 : fkS → Option (ρ × fkS)} (hi : kdC i = 0) (hdg : decode cc pc = .ok (.putfield 181, 3))
    (kk : ∀ st1, fk_J wC g en k (pc + 3) lv stk st1 (F1 st1)) : fk_J wC g en k pc lv (.int v :: fk_r g i :: stk) st (fk_let (sI st 6 i v) F1) := by
  intro o ho hq
  have kk := kk (sI st 6 i v) o ho hq
  obtain ⟨p, l, e, R, s, m, args, below, meth, c, rv, sf⟩ := k
  obtain ⟨hx, hb, hml, hown, hts, hK, hE, hr, hlk, hinj, hfr, hlo⟩ := hk
  intro H locs ls hl hP hS
  refine va_putN (D := g.2.1) (ci := 0) (C := RX0) (T := TX0) (N := 11) (v := .int v) (ty := .int) hx hb hts wB_0 tyX0 tyX0_ok nmX0 hown hK hP (fk_wD hinj _ _) hS i (wat_0 hi) rfl 6 (by decide) (va_Nw.use rfl (hE.1 _ wf_7_181)) (fun _ h => h) rfl (by decide +kernel) rfl rfl (Nat.le_of_ble_eq_true rfl) hdg (fun H1 locs1 hP1 hD1 hS1 => kk H1 locs1 ls hl ?_ hS1)
  rw [← wst_0_6 hi]
  exact hP1
theorem wf_0_34 : Cond.fieldLink RX0 34 "PieFunnels$Bakery" "troubles" "I" ∈ fkB := fkB_in (List.mem_of_getElem? (i := 157) (by decide +kernel)) rfl
theorem f_0_34 {g : fkG} {k : fkK} {ρ : Type} {en : ρ → Option Value} {cc : ByteArray} {nL fr lo pc : Nat} {ret : Option FieldType} {lv : List (Nat × Value)} {stk : List Value} {st : fkS} (hk : fk_ok wC g k RX0 cc nL ret fr lo) {i : Nat} {F1 : Int32 → Option (ρ × fkS)} (hi : kdC i = 0) (hdg : decode cc pc = .ok (.getfield 34, 3))
    (kk : ∀ x, fk_J wC g en k (pc + 3) lv (.int x :: stk) st (F1 x)) : fk_J wC g en k pc lv (fk_r g i :: stk) st (fk_let (gI st 7 i) F1) := by
  intro o ho hq
  have kk := kk (gI st 7 i) o ho hq
  obtain ⟨p, l, e, R, s, m, args, below, meth, c, rv, sf⟩ := k
  obtain ⟨hx, hb, hml, hown, hts, hK, hE, hr, hlk, hinj, hfr, hlo⟩ := hk
  intro H locs ls hl hP hS
  exact va_get (D := g.2.1) (ci := 0) (C := RX0) (T := TX0) (N := 11) (v := .int (gI st 7 i)) hx hb hts wB_0 hown hK hP i (wat_0 hi) rfl 7 (by decide) (hts _ wf_0_34) (fun _ h => h) rfl hdg (kk H locs ls hl hP hS)
theorem p_0_34 {g : fkG} {k : fkK} {ρ : Type} {en : ρ → Option Value} {cc : ByteArray} {nL fr lo pc : Nat} {ret : Option FieldType} {lv : List (Nat × Value)} {stk : List Value} {st : fkS} (hk : fk_ok wC g k RX0 cc nL ret fr lo) {i : Nat} {v : Int32} {F1 : fkS → Option (ρ × fkS)} (hi : kdC i = 0) (hdg : decode cc pc = .ok (.putfield 34, 3))
    (kk : ∀ st1, fk_J wC g en k (pc + 3) lv stk st1 (F1 st1)) : fk_J wC g en k pc lv (.int v :: fk_r g i :: stk) st (fk_let (sI st 7 i v) F1) := by
  intro o ho hq
  have kk := kk (sI st 7 i v) o ho hq
  obtain ⟨p, l, e, R, s, m, args, below, meth, c, rv, sf⟩ := k
  obtain ⟨hx, hb, hml, hown, hts, hK, hE, hr, hlk, hinj, hfr, hlo⟩ := hk
  intro H locs ls hl hP hS
  refine va_put (D := g.2.1) (ci := 0) (C := RX0) (T := TX0) (N := 11) (v := .int v) (ty := .int) hx hb hts wB_0 tyX0 tyX0_ok nmX0 hown hK hP (fk_wD hinj _ _) hS i (wat_0 hi) rfl 7 (by decide) (hts _ wf_0_34) (fun _ h => h) rfl (by decide +kernel) rfl rfl (Nat.le_of_ble_eq_true rfl) hdg (fun H1 locs1 hP1 hD1 hS1 => kk H1 locs1 ls hl ?_ hS1)
  rw [← wst_0_7 hi]
  exact hP1
theorem wf_4_97 : Cond.fieldLinkNest RX4 97 "PieFunnels$Bakery" "troubles" "I" "PieFunnels" ∈ fk_nests := List.mem_of_getElem? (i := 15) (by decide +kernel)
theorem f_4_97 {g : fkG} {k : fkK} {ρ : Type} {en : ρ → Option Value} {cc : ByteArray} {nL fr lo pc : Nat} {ret : Option FieldType} {lv : List (Nat × Value)} {stk : List Value} {st : fkS} (hk : fk_ok wC g k RX4 cc nL ret fr lo) {i : Nat} {F1 : Int32 → Option (ρ × fkS)} (hi : kdC i = 0) (hdg : decode cc pc = .ok (.getfield 97, 3))
    (kk : ∀ x, fk_J wC g en k (pc + 3) lv (.int x :: stk) st (F1 x)) : fk_J wC g en k pc lv (fk_r g i :: stk) st (fk_let (gI st 7 i) F1) := by
  intro o ho hq
  have kk := kk (gI st 7 i) o ho hq
  obtain ⟨p, l, e, R, s, m, args, below, meth, c, rv, sf⟩ := k
  obtain ⟨hx, hb, hml, hown, hts, hK, hE, hr, hlk, hinj, hfr, hlo⟩ := hk
  intro H locs ls hl hP hS
  exact va_getN (D := g.2.1) (ci := 0) (C := RX0) (T := TX0) (N := 11) (v := .int (gI st 7 i)) hx hb hts wB_0 hown hK hP i (wat_0 hi) rfl 7 (by decide) (va_Nw.use rfl (hE.1 _ wf_4_97)) (fun _ h => h) rfl hdg (kk H locs ls hl hP hS)
theorem p_4_97 {g : fkG} {k : fkK} {ρ : Type} {en : ρ → Option Value} {cc : ByteArray} {nL fr lo pc : Nat} {ret : Option FieldType} {lv : List (Nat × Value)} {stk : List Value} {st : fkS} (hk : fk_ok wC g k RX4 cc nL ret fr lo) {i : Nat} {v : Int32} {F1 : fkS → Option (ρ × fkS)} (hi : kdC i = 0) (hdg : decode cc pc = .ok (.putfield 97, 3))
    (kk : ∀ st1, fk_J wC g en k (pc + 3) lv stk st1 (F1 st1)) : fk_J wC g en k pc lv (.int v :: fk_r g i :: stk) st (fk_let (sI st 7 i v) F1) := by
  intro o ho hq
  have kk := kk (sI st 7 i v) o ho hq
  obtain ⟨p, l, e, R, s, m, args, below, meth, c, rv, sf⟩ := k
  obtain ⟨hx, hb, hml, hown, hts, hK, hE, hr, hlk, hinj, hfr, hlo⟩ := hk
  intro H locs ls hl hP hS
  refine va_putN (D := g.2.1) (ci := 0) (C := RX0) (T := TX0) (N := 11) (v := .int v) (ty := .int) hx hb hts wB_0 tyX0 tyX0_ok nmX0 hown hK hP (fk_wD hinj _ _) hS i (wat_0 hi) rfl 7 (by decide) (va_Nw.use rfl (hE.1 _ wf_4_97)) (fun _ h => h) rfl (by decide +kernel) rfl rfl (Nat.le_of_ble_eq_true rfl) hdg (fun H1 locs1 hP1 hD1 hS1 => kk H1 locs1 ls hl ?_ hS1)
  rw [← wst_0_7 hi]
  exact hP1
theorem wf_7_184 : Cond.fieldLinkNest RX7 184 "PieFunnels$Bakery" "troubles" "I" "PieFunnels" ∈ fk_nests := List.mem_of_getElem? (i := 16) (by decide +kernel)
theorem f_7_184 {g : fkG} {k : fkK} {ρ : Type} {en : ρ → Option Value} {cc : ByteArray} {nL fr lo pc : Nat} {ret : Option FieldType} {lv : List (Nat × Value)} {stk : List Value} {st : fkS} (hk : fk_ok wC g k RX7 cc nL ret fr lo) {i : Nat} {F1 : Int32 → Option (ρ × fkS)} (hi : kdC i = 0) (hdg : decode cc pc = .ok (.getfield 184, 3))
    (kk : ∀ x, fk_J wC g en k (pc + 3) lv (.int x :: stk) st (F1 x)) : fk_J wC g en k pc lv (fk_r g i :: stk) st (fk_let (gI st 7 i) F1) := by
  intro o ho hq
  have kk := kk (gI st 7 i) o ho hq
  obtain ⟨p, l, e, R, s, m, args, below, meth, c, rv, sf⟩ := k
  obtain ⟨hx, hb, hml, hown, hts, hK, hE, hr, hlk, hinj, hfr, hlo⟩ := hk
  intro H locs ls hl hP hS
  exact va_getN (D := g.2.1) (ci := 0) (C := RX0) (T := TX0) (N := 11) (v := .int (gI st 7 i)) hx hb hts wB_0 hown hK hP i (wat_0 hi) rfl 7 (by decide) (va_Nw.use rfl (hE.1 _ wf_7_184)) (fun _ h => h) rfl hdg (kk H locs ls hl hP hS)
theorem p_7_184 {g : fkG} {k : fkK} {ρ : Type} {en : ρ → Option Value} {cc : ByteArray} {nL fr lo pc : Nat} {ret : Option FieldType} {lv : List (Nat × Value)} {stk : List Value} {st : fkS} (hk : fk_ok wC g k RX7 cc nL ret fr lo) {i : Nat} {v : Int32} {F1 : fkS → Option (ρ × fkS)} (hi : kdC i = 0) (hdg : decode cc pc = .ok (.putfield 184, 3))
    (kk : ∀ st1, fk_J wC g en k (pc + 3) lv stk st1 (F1 st1)) : fk_J wC g en k pc lv (.int v :: fk_r g i :: stk) st (fk_let (sI st 7 i v) F1) := by
  intro o ho hq
  have kk := kk (sI st 7 i v) o ho hq
  obtain ⟨p, l, e, R, s, m, args, below, meth, c, rv, sf⟩ := k
  obtain ⟨hx, hb, hml, hown, hts, hK, hE, hr, hlk, hinj, hfr, hlo⟩ := hk
  intro H locs ls hl hP hS
  refine va_putN (D := g.2.1) (ci := 0) (C := RX0) (T := TX0) (N := 11) (v := .int v) (ty := .int) hx hb hts wB_0 tyX0 tyX0_ok nmX0 hown hK hP (fk_wD hinj _ _) hS i (wat_0 hi) rfl 7 (by decide) (va_Nw.use rfl (hE.1 _ wf_7_184)) (fun _ h => h) rfl (by decide +kernel) rfl rfl (Nat.le_of_ble_eq_true rfl) hdg (fun H1 locs1 hP1 hD1 hS1 => kk H1 locs1 ls hl ?_ hS1)
  rw [← wst_0_7 hi]
  exact hP1
theorem wf_0_37 : Cond.fieldLink RX0 37 "PieFunnels$Bakery" "bakes" "I" ∈ fkB := fkB_in (List.mem_of_getElem? (i := 160) (by decide +kernel)) rfl
theorem f_0_37 {g : fkG} {k : fkK} {ρ : Type} {en : ρ → Option Value} {cc : ByteArray} {nL fr lo pc : Nat} {ret : Option FieldType} {lv : List (Nat × Value)} {stk : List Value} {st : fkS} (hk : fk_ok wC g k RX0 cc nL ret fr lo) {i : Nat} {F1 : Int32 → Option (ρ × fkS)} (hi : kdC i = 0) (hdg : decode cc pc = .ok (.getfield 37, 3))
    (kk : ∀ x, fk_J wC g en k (pc + 3) lv (.int x :: stk) st (F1 x)) : fk_J wC g en k pc lv (fk_r g i :: stk) st (fk_let (gI st 8 i) F1) := by
  intro o ho hq
  have kk := kk (gI st 8 i) o ho hq
  obtain ⟨p, l, e, R, s, m, args, below, meth, c, rv, sf⟩ := k
  obtain ⟨hx, hb, hml, hown, hts, hK, hE, hr, hlk, hinj, hfr, hlo⟩ := hk
  intro H locs ls hl hP hS
  exact va_get (D := g.2.1) (ci := 0) (C := RX0) (T := TX0) (N := 11) (v := .int (gI st 8 i)) hx hb hts wB_0 hown hK hP i (wat_0 hi) rfl 8 (by decide) (hts _ wf_0_37) (fun _ h => h) rfl hdg (kk H locs ls hl hP hS)
theorem p_0_37 {g : fkG} {k : fkK} {ρ : Type} {en : ρ → Option Value} {cc : ByteArray} {nL fr lo pc : Nat} {ret : Option FieldType} {lv : List (Nat × Value)} {stk : List Value} {st : fkS} (hk : fk_ok wC g k RX0 cc nL ret fr lo) {i : Nat} {v : Int32} {F1 : fkS → Option (ρ × fkS)} (hi : kdC i = 0) (hdg : decode cc pc = .ok (.putfield 37, 3))
    (kk : ∀ st1, fk_J wC g en k (pc + 3) lv stk st1 (F1 st1)) : fk_J wC g en k pc lv (.int v :: fk_r g i :: stk) st (fk_let (sI st 8 i v) F1) := by
  intro o ho hq
  have kk := kk (sI st 8 i v) o ho hq
  obtain ⟨p, l, e, R, s, m, args, below, meth, c, rv, sf⟩ := k
  obtain ⟨hx, hb, hml, hown, hts, hK, hE, hr, hlk, hinj, hfr, hlo⟩ := hk
  intro H locs ls hl hP hS
  refine va_put (D := g.2.1) (ci := 0) (C := RX0) (T := TX0) (N := 11) (v := .int v) (ty := .int) hx hb hts wB_0 tyX0 tyX0_ok nmX0 hown hK hP (fk_wD hinj _ _) hS i (wat_0 hi) rfl 8 (by decide) (hts _ wf_0_37) (fun _ h => h) rfl (by decide +kernel) rfl rfl (Nat.le_of_ble_eq_true rfl) hdg (fun H1 locs1 hP1 hD1 hS1 => kk H1 locs1 ls hl ?_ hS1)
  rw [← wst_0_8 hi]
  exact hP1
theorem wf_7_328 : Cond.fieldLinkNest RX7 328 "PieFunnels$Bakery" "bakes" "I" "PieFunnels" ∈ fk_nests := List.mem_of_getElem? (i := 17) (by decide +kernel)
theorem f_7_328 {g : fkG} {k : fkK} {ρ : Type} {en : ρ → Option Value} {cc : ByteArray} {nL fr lo pc : Nat} {ret : Option FieldType} {lv : List (Nat × Value)} {stk : List Value} {st : fkS} (hk : fk_ok wC g k RX7 cc nL ret fr lo) {i : Nat} {F1 : Int32 → Option (ρ × fkS)} (hi : kdC i = 0) (hdg : decode cc pc = .ok (.getfield 328, 3))
    (kk : ∀ x, fk_J wC g en k (pc + 3) lv (.int x :: stk) st (F1 x)) : fk_J wC g en k pc lv (fk_r g i :: stk) st (fk_let (gI st 8 i) F1) := by
  intro o ho hq
  have kk := kk (gI st 8 i) o ho hq
  obtain ⟨p, l, e, R, s, m, args, below, meth, c, rv, sf⟩ := k
  obtain ⟨hx, hb, hml, hown, hts, hK, hE, hr, hlk, hinj, hfr, hlo⟩ := hk
  intro H locs ls hl hP hS
  exact va_getN (D := g.2.1) (ci := 0) (C := RX0) (T := TX0) (N := 11) (v := .int (gI st 8 i)) hx hb hts wB_0 hown hK hP i (wat_0 hi) rfl 8 (by decide) (va_Nw.use rfl (hE.1 _ wf_7_328)) (fun _ h => h) rfl hdg (kk H locs ls hl hP hS)
theorem p_7_328 {g : fkG} {k : fkK} {ρ : Type} {en : ρ → Option Value} {cc : ByteArray} {nL fr lo pc : Nat} {ret : Option FieldType} {lv : List (Nat × Value)} {stk : List Value} {st : fkS} (hk : fk_ok wC g k RX7 cc nL ret fr lo) {i : Nat} {v : Int32} {F1 : fkS → Option (ρ × fkS)} (hi : kdC i = 0) (hdg : decode cc pc = .ok (.putfield 328, 3))
    (kk : ∀ st1, fk_J wC g en k (pc + 3) lv stk st1 (F1 st1)) : fk_J wC g en k pc lv (.int v :: fk_r g i :: stk) st (fk_let (sI st 8 i v) F1) := by
  intro o ho hq
  have kk := kk (sI st 8 i v) o ho hq
  obtain ⟨p, l, e, R, s, m, args, below, meth, c, rv, sf⟩ := k
  obtain ⟨hx, hb, hml, hown, hts, hK, hE, hr, hlk, hinj, hfr, hlo⟩ := hk
  intro H locs ls hl hP hS
  refine va_putN (D := g.2.1) (ci := 0) (C := RX0) (T := TX0) (N := 11) (v := .int v) (ty := .int) hx hb hts wB_0 tyX0 tyX0_ok nmX0 hown hK hP (fk_wD hinj _ _) hS i (wat_0 hi) rfl 8 (by decide) (va_Nw.use rfl (hE.1 _ wf_7_328)) (fun _ h => h) rfl (by decide +kernel) rfl rfl (Nat.le_of_ble_eq_true rfl) hdg (fun H1 locs1 hP1 hD1 hS1 => kk H1 locs1 ls hl ?_ hS1)
  rw [← wst_0_8 hi]
  exact hP1
theorem wf_0_40 : Cond.fieldLink RX0 40 "PieFunnels$Bakery" "suffered" "I" ∈ fkB := fkB_in (List.mem_of_getElem? (i := 162) (by decide +kernel)) rfl
theorem f_0_40 {g : fkG} {k : fkK} {ρ : Type} {en : ρ → Option Value} {cc : ByteArray} {nL fr lo pc : Nat} {ret : Option FieldType} {lv : List (Nat × Value)} {stk : List Value} {st : fkS} (hk : fk_ok wC g k RX0 cc nL ret fr lo) {i : Nat} {F1 : Int32 → Option (ρ × fkS)} (hi : kdC i = 0) (hdg : decode cc pc = .ok (.getfield 40, 3))
    (kk : ∀ x, fk_J wC g en k (pc + 3) lv (.int x :: stk) st (F1 x)) : fk_J wC g en k pc lv (fk_r g i :: stk) st (fk_let (gI st 9 i) F1) := by
  intro o ho hq
  have kk := kk (gI st 9 i) o ho hq
  obtain ⟨p, l, e, R, s, m, args, below, meth, c, rv, sf⟩ := k
  obtain ⟨hx, hb, hml, hown, hts, hK, hE, hr, hlk, hinj, hfr, hlo⟩ := hk
  intro H locs ls hl hP hS
  exact va_get (D := g.2.1) (ci := 0) (C := RX0) (T := TX0) (N := 11) (v := .int (gI st 9 i)) hx hb hts wB_0 hown hK hP i (wat_0 hi) rfl 9 (by decide) (hts _ wf_0_40) (fun _ h => h) rfl hdg (kk H locs ls hl hP hS)
theorem p_0_40 {g : fkG} {k : fkK} {ρ : Type} {en : ρ → Option Value} {cc : ByteArray} {nL fr lo pc : Nat} {ret : Option FieldType} {lv : List (Nat × Value)} {stk : List Value} {st : fkS} (hk : fk_ok wC g k RX0 cc nL ret fr lo) {i : Nat} {v : Int32} {F1 : fkS → Option (ρ × fkS)} (hi : kdC i = 0) (hdg : decode cc pc = .ok (.putfield 40, 3))
    (kk : ∀ st1, fk_J wC g en k (pc + 3) lv stk st1 (F1 st1)) : fk_J wC g en k pc lv (.int v :: fk_r g i :: stk) st (fk_let (sI st 9 i v) F1) := by
  intro o ho hq
  have kk := kk (sI st 9 i v) o ho hq
  obtain ⟨p, l, e, R, s, m, args, below, meth, c, rv, sf⟩ := k
  obtain ⟨hx, hb, hml, hown, hts, hK, hE, hr, hlk, hinj, hfr, hlo⟩ := hk
  intro H locs ls hl hP hS
  refine va_put (D := g.2.1) (ci := 0) (C := RX0) (T := TX0) (N := 11) (v := .int v) (ty := .int) hx hb hts wB_0 tyX0 tyX0_ok nmX0 hown hK hP (fk_wD hinj _ _) hS i (wat_0 hi) rfl 9 (by decide) (hts _ wf_0_40) (fun _ h => h) rfl (by decide +kernel) rfl rfl (Nat.le_of_ble_eq_true rfl) hdg (fun H1 locs1 hP1 hD1 hS1 => kk H1 locs1 ls hl ?_ hS1)
  rw [← wst_0_9 hi]
  exact hP1
theorem wf_7_305 : Cond.fieldLinkNest RX7 305 "PieFunnels$Bakery" "suffered" "I" "PieFunnels" ∈ fk_nests := List.mem_of_getElem? (i := 18) (by decide +kernel)
theorem f_7_305 {g : fkG} {k : fkK} {ρ : Type} {en : ρ → Option Value} {cc : ByteArray} {nL fr lo pc : Nat} {ret : Option FieldType} {lv : List (Nat × Value)} {stk : List Value} {st : fkS} (hk : fk_ok wC g k RX7 cc nL ret fr lo) {i : Nat} {F1 : Int32 → Option (ρ × fkS)} (hi : kdC i = 0) (hdg : decode cc pc = .ok (.getfield 305, 3))
    (kk : ∀ x, fk_J wC g en k (pc + 3) lv (.int x :: stk) st (F1 x)) : fk_J wC g en k pc lv (fk_r g i :: stk) st (fk_let (gI st 9 i) F1) := by
  intro o ho hq
  have kk := kk (gI st 9 i) o ho hq
  obtain ⟨p, l, e, R, s, m, args, below, meth, c, rv, sf⟩ := k
  obtain ⟨hx, hb, hml, hown, hts, hK, hE, hr, hlk, hinj, hfr, hlo⟩ := hk
  intro H locs ls hl hP hS
  exact va_getN (D := g.2.1) (ci := 0) (C := RX0) (T := TX0) (N := 11) (v := .int (gI st 9 i)) hx hb hts wB_0 hown hK hP i (wat_0 hi) rfl 9 (by decide) (va_Nw.use rfl (hE.1 _ wf_7_305)) (fun _ h => h) rfl hdg (kk H locs ls hl hP hS)
theorem p_7_305 {g : fkG} {k : fkK} {ρ : Type} {en : ρ → Option Value} {cc : ByteArray} {nL fr lo pc : Nat} {ret : Option FieldType} {lv : List (Nat × Value)} {stk : List Value} {st : fkS} (hk : fk_ok wC g k RX7 cc nL ret fr lo) {i : Nat} {v : Int32} {F1 : fkS → Option (ρ × fkS)} (hi : kdC i = 0) (hdg : decode cc pc = .ok (.putfield 305, 3))
    (kk : ∀ st1, fk_J wC g en k (pc + 3) lv stk st1 (F1 st1)) : fk_J wC g en k pc lv (.int v :: fk_r g i :: stk) st (fk_let (sI st 9 i v) F1) := by
  intro o ho hq
  have kk := kk (sI st 9 i v) o ho hq
  obtain ⟨p, l, e, R, s, m, args, below, meth, c, rv, sf⟩ := k
  obtain ⟨hx, hb, hml, hown, hts, hK, hE, hr, hlk, hinj, hfr, hlo⟩ := hk
  intro H locs ls hl hP hS
  refine va_putN (D := g.2.1) (ci := 0) (C := RX0) (T := TX0) (N := 11) (v := .int v) (ty := .int) hx hb hts wB_0 tyX0 tyX0_ok nmX0 hown hK hP (fk_wD hinj _ _) hS i (wat_0 hi) rfl 9 (by decide) (va_Nw.use rfl (hE.1 _ wf_7_305)) (fun _ h => h) rfl (by decide +kernel) rfl rfl (Nat.le_of_ble_eq_true rfl) hdg (fun H1 locs1 hP1 hD1 hS1 => kk H1 locs1 ls hl ?_ hS1)
  rw [← wst_0_9 hi]
  exact hP1
theorem wf_0_43 : Cond.fieldLink RX0 43 "PieFunnels$Bakery" "seed" "I" ∈ fkB := fkB_in (List.mem_of_getElem? (i := 164) (by decide +kernel)) rfl
theorem f_0_43 {g : fkG} {k : fkK} {ρ : Type} {en : ρ → Option Value} {cc : ByteArray} {nL fr lo pc : Nat} {ret : Option FieldType} {lv : List (Nat × Value)} {stk : List Value} {st : fkS} (hk : fk_ok wC g k RX0 cc nL ret fr lo) {i : Nat} {F1 : Int32 → Option (ρ × fkS)} (hi : kdC i = 0) (hdg : decode cc pc = .ok (.getfield 43, 3))
    (kk : ∀ x, fk_J wC g en k (pc + 3) lv (.int x :: stk) st (F1 x)) : fk_J wC g en k pc lv (fk_r g i :: stk) st (fk_let (gI st 10 i) F1) := by
  intro o ho hq
  have kk := kk (gI st 10 i) o ho hq
  obtain ⟨p, l, e, R, s, m, args, below, meth, c, rv, sf⟩ := k
  obtain ⟨hx, hb, hml, hown, hts, hK, hE, hr, hlk, hinj, hfr, hlo⟩ := hk
  intro H locs ls hl hP hS
  exact va_get (D := g.2.1) (ci := 0) (C := RX0) (T := TX0) (N := 11) (v := .int (gI st 10 i)) hx hb hts wB_0 hown hK hP i (wat_0 hi) rfl 10 (by decide) (hts _ wf_0_43) (fun _ h => h) rfl hdg (kk H locs ls hl hP hS)
theorem p_0_43 {g : fkG} {k : fkK} {ρ : Type} {en : ρ → Option Value} {cc : ByteArray} {nL fr lo pc : Nat} {ret : Option FieldType} {lv : List (Nat × Value)} {stk : List Value} {st : fkS} (hk : fk_ok wC g k RX0 cc nL ret fr lo) {i : Nat} {v : Int32} {F1 : fkS → Option (ρ × fkS)} (hi : kdC i = 0) (hdg : decode cc pc = .ok (.putfield 43, 3))
    (kk : ∀ st1, fk_J wC g en k (pc + 3) lv stk st1 (F1 st1)) : fk_J wC g en k pc lv (.int v :: fk_r g i :: stk) st (fk_let (sI st 10 i v) F1) := by
  intro o ho hq
  have kk := kk (sI st 10 i v) o ho hq
  obtain ⟨p, l, e, R, s, m, args, below, meth, c, rv, sf⟩ := k
  obtain ⟨hx, hb, hml, hown, hts, hK, hE, hr, hlk, hinj, hfr, hlo⟩ := hk
  intro H locs ls hl hP hS
  refine va_put (D := g.2.1) (ci := 0) (C := RX0) (T := TX0) (N := 11) (v := .int v) (ty := .int) hx hb hts wB_0 tyX0 tyX0_ok nmX0 hown hK hP (fk_wD hinj _ _) hS i (wat_0 hi) rfl 10 (by decide) (hts _ wf_0_43) (fun _ h => h) rfl (by decide +kernel) rfl rfl (Nat.le_of_ble_eq_true rfl) hdg (fun H1 locs1 hP1 hD1 hS1 => kk H1 locs1 ls hl ?_ hS1)
  rw [← wst_0_10 hi]
  exact hP1
theorem wf_7_308 : Cond.fieldLinkNest RX7 308 "PieFunnels$Bakery" "seed" "I" "PieFunnels" ∈ fk_nests := List.mem_of_getElem? (i := 19) (by decide +kernel)
theorem f_7_308 {g : fkG} {k : fkK} {ρ : Type} {en : ρ → Option Value} {cc : ByteArray} {nL fr lo pc : Nat} {ret : Option FieldType} {lv : List (Nat × Value)} {stk : List Value} {st : fkS} (hk : fk_ok wC g k RX7 cc nL ret fr lo) {i : Nat} {F1 : Int32 → Option (ρ × fkS)} (hi : kdC i = 0) (hdg : decode cc pc = .ok (.getfield 308, 3))
    (kk : ∀ x, fk_J wC g en k (pc + 3) lv (.int x :: stk) st (F1 x)) : fk_J wC g en k pc lv (fk_r g i :: stk) st (fk_let (gI st 10 i) F1) := by
  intro o ho hq
  have kk := kk (gI st 10 i) o ho hq
  obtain ⟨p, l, e, R, s, m, args, below, meth, c, rv, sf⟩ := k
  obtain ⟨hx, hb, hml, hown, hts, hK, hE, hr, hlk, hinj, hfr, hlo⟩ := hk
  intro H locs ls hl hP hS
  exact va_getN (D := g.2.1) (ci := 0) (C := RX0) (T := TX0) (N := 11) (v := .int (gI st 10 i)) hx hb hts wB_0 hown hK hP i (wat_0 hi) rfl 10 (by decide) (va_Nw.use rfl (hE.1 _ wf_7_308)) (fun _ h => h) rfl hdg (kk H locs ls hl hP hS)
theorem p_7_308 {g : fkG} {k : fkK} {ρ : Type} {en : ρ → Option Value} {cc : ByteArray} {nL fr lo pc : Nat} {ret : Option FieldType} {lv : List (Nat × Value)} {stk : List Value} {st : fkS} (hk : fk_ok wC g k RX7 cc nL ret fr lo) {i : Nat} {v : Int32} {F1 : fkS → Option (ρ × fkS)} (hi : kdC i = 0) (hdg : decode cc pc = .ok (.putfield 308, 3))
    (kk : ∀ st1, fk_J wC g en k (pc + 3) lv stk st1 (F1 st1)) : fk_J wC g en k pc lv (.int v :: fk_r g i :: stk) st (fk_let (sI st 10 i v) F1) := by
  intro o ho hq
  have kk := kk (sI st 10 i v) o ho hq
  obtain ⟨p, l, e, R, s, m, args, below, meth, c, rv, sf⟩ := k
  obtain ⟨hx, hb, hml, hown, hts, hK, hE, hr, hlk, hinj, hfr, hlo⟩ := hk
  intro H locs ls hl hP hS
  refine va_putN (D := g.2.1) (ci := 0) (C := RX0) (T := TX0) (N := 11) (v := .int v) (ty := .int) hx hb hts wB_0 tyX0 tyX0_ok nmX0 hown hK hP (fk_wD hinj _ _) hS i (wat_0 hi) rfl 10 (by decide) (va_Nw.use rfl (hE.1 _ wf_7_308)) (fun _ h => h) rfl (by decide +kernel) rfl rfl (Nat.le_of_ble_eq_true rfl) hdg (fun H1 locs1 hP1 hD1 hS1 => kk H1 locs1 ls hl ?_ hS1)
  rw [← wst_0_10 hi]
  exact hP1
theorem wf_4_9 : Cond.fieldLink RX4 9 "PieFunnels$Reader" "fault" "I" ∈ fkB := fkB_in (List.mem_of_getElem? (i := 196) (by decide +kernel)) rfl
theorem f_4_9 {g : fkG} {k : fkK} {ρ : Type} {en : ρ → Option Value} {cc : ByteArray} {nL fr lo pc : Nat} {ret : Option FieldType} {lv : List (Nat × Value)} {stk : List Value} {st : fkS} (hk : fk_ok wC g k RX4 cc nL ret fr lo) {i : Nat} {F1 : Int32 → Option (ρ × fkS)} (hi : kdC i = 4) (hdg : decode cc pc = .ok (.getfield 9, 3))
    (kk : ∀ x, fk_J wC g en k (pc + 3) lv (.int x :: stk) st (F1 x)) : fk_J wC g en k pc lv (fk_r g i :: stk) st (fk_let (gI st 80 i) F1) := by
  intro o ho hq
  have kk := kk (gI st 80 i) o ho hq
  obtain ⟨p, l, e, R, s, m, args, below, meth, c, rv, sf⟩ := k
  obtain ⟨hx, hb, hml, hown, hts, hK, hE, hr, hlk, hinj, hfr, hlo⟩ := hk
  intro H locs ls hl hP hS
  exact va_get (D := g.2.1) (ci := 4) (C := RX4) (T := TX4) (N := 4) (v := .int (gI st 80 i)) hx hb hts wB_4 hown hK hP i (wat_4 hi) rfl 0 (by decide) (hts _ wf_4_9) (fun _ h => h) rfl hdg (kk H locs ls hl hP hS)
theorem p_4_9 {g : fkG} {k : fkK} {ρ : Type} {en : ρ → Option Value} {cc : ByteArray} {nL fr lo pc : Nat} {ret : Option FieldType} {lv : List (Nat × Value)} {stk : List Value} {st : fkS} (hk : fk_ok wC g k RX4 cc nL ret fr lo) {i : Nat} {v : Int32} {F1 : fkS → Option (ρ × fkS)} (hi : kdC i = 4) (hdg : decode cc pc = .ok (.putfield 9, 3))
    (kk : ∀ st1, fk_J wC g en k (pc + 3) lv stk st1 (F1 st1)) : fk_J wC g en k pc lv (.int v :: fk_r g i :: stk) st (fk_let (sI st 80 i v) F1) := by
  intro o ho hq
  have kk := kk (sI st 80 i v) o ho hq
  obtain ⟨p, l, e, R, s, m, args, below, meth, c, rv, sf⟩ := k
  obtain ⟨hx, hb, hml, hown, hts, hK, hE, hr, hlk, hinj, hfr, hlo⟩ := hk
  intro H locs ls hl hP hS
  refine va_put (D := g.2.1) (ci := 4) (C := RX4) (T := TX4) (N := 4) (v := .int v) (ty := .int) hx hb hts wB_4 tyX4 tyX4_ok nmX4 hown hK hP (fk_wD hinj _ _) hS i (wat_4 hi) rfl 0 (by decide) (hts _ wf_4_9) (fun _ h => h) rfl (by decide +kernel) rfl rfl (Nat.le_of_ble_eq_true rfl) hdg (fun H1 locs1 hP1 hD1 hS1 => kk H1 locs1 ls hl ?_ hS1)
  rw [← wst_4_0 hi]
  exact hP1
theorem wf_7_207 : Cond.fieldLinkNest RX7 207 "PieFunnels$Reader" "fault" "I" "PieFunnels" ∈ fk_nests := List.mem_of_getElem? (i := 20) (by decide +kernel)
theorem f_7_207 {g : fkG} {k : fkK} {ρ : Type} {en : ρ → Option Value} {cc : ByteArray} {nL fr lo pc : Nat} {ret : Option FieldType} {lv : List (Nat × Value)} {stk : List Value} {st : fkS} (hk : fk_ok wC g k RX7 cc nL ret fr lo) {i : Nat} {F1 : Int32 → Option (ρ × fkS)} (hi : kdC i = 4) (hdg : decode cc pc = .ok (.getfield 207, 3))
    (kk : ∀ x, fk_J wC g en k (pc + 3) lv (.int x :: stk) st (F1 x)) : fk_J wC g en k pc lv (fk_r g i :: stk) st (fk_let (gI st 80 i) F1) := by
  intro o ho hq
  have kk := kk (gI st 80 i) o ho hq
  obtain ⟨p, l, e, R, s, m, args, below, meth, c, rv, sf⟩ := k
  obtain ⟨hx, hb, hml, hown, hts, hK, hE, hr, hlk, hinj, hfr, hlo⟩ := hk
  intro H locs ls hl hP hS
  exact va_getN (D := g.2.1) (ci := 4) (C := RX4) (T := TX4) (N := 4) (v := .int (gI st 80 i)) hx hb hts wB_4 hown hK hP i (wat_4 hi) rfl 0 (by decide) (va_Nw.use rfl (hE.1 _ wf_7_207)) (fun _ h => h) rfl hdg (kk H locs ls hl hP hS)
theorem p_7_207 {g : fkG} {k : fkK} {ρ : Type} {en : ρ → Option Value} {cc : ByteArray} {nL fr lo pc : Nat} {ret : Option FieldType} {lv : List (Nat × Value)} {stk : List Value} {st : fkS} (hk : fk_ok wC g k RX7 cc nL ret fr lo) {i : Nat} {v : Int32} {F1 : fkS → Option (ρ × fkS)} (hi : kdC i = 4) (hdg : decode cc pc = .ok (.putfield 207, 3))
    (kk : ∀ st1, fk_J wC g en k (pc + 3) lv stk st1 (F1 st1)) : fk_J wC g en k pc lv (.int v :: fk_r g i :: stk) st (fk_let (sI st 80 i v) F1) := by
  intro o ho hq
  have kk := kk (sI st 80 i v) o ho hq
  obtain ⟨p, l, e, R, s, m, args, below, meth, c, rv, sf⟩ := k
  obtain ⟨hx, hb, hml, hown, hts, hK, hE, hr, hlk, hinj, hfr, hlo⟩ := hk
  intro H locs ls hl hP hS
  refine va_putN (D := g.2.1) (ci := 4) (C := RX4) (T := TX4) (N := 4) (v := .int v) (ty := .int) hx hb hts wB_4 tyX4 tyX4_ok nmX4 hown hK hP (fk_wD hinj _ _) hS i (wat_4 hi) rfl 0 (by decide) (va_Nw.use rfl (hE.1 _ wf_7_207)) (fun _ h => h) rfl (by decide +kernel) rfl rfl (Nat.le_of_ble_eq_true rfl) hdg (fun H1 locs1 hP1 hD1 hS1 => kk H1 locs1 ls hl ?_ hS1)
  rw [← wst_4_0 hi]
  exact hP1
theorem wf_4_15 : Cond.fieldLink RX4 15 "PieFunnels$Reader" "place" "I" ∈ fkB := fkB_in (List.mem_of_getElem? (i := 198) (by decide +kernel)) rfl
theorem f_4_15 {g : fkG} {k : fkK} {ρ : Type} {en : ρ → Option Value} {cc : ByteArray} {nL fr lo pc : Nat} {ret : Option FieldType} {lv : List (Nat × Value)} {stk : List Value} {st : fkS} (hk : fk_ok wC g k RX4 cc nL ret fr lo) {i : Nat} {F1 : Int32 → Option (ρ × fkS)} (hi : kdC i = 4) (hdg : decode cc pc = .ok (.getfield 15, 3))
    (kk : ∀ x, fk_J wC g en k (pc + 3) lv (.int x :: stk) st (F1 x)) : fk_J wC g en k pc lv (fk_r g i :: stk) st (fk_let (gI st 81 i) F1) := by
  intro o ho hq
  have kk := kk (gI st 81 i) o ho hq
  obtain ⟨p, l, e, R, s, m, args, below, meth, c, rv, sf⟩ := k
  obtain ⟨hx, hb, hml, hown, hts, hK, hE, hr, hlk, hinj, hfr, hlo⟩ := hk
  intro H locs ls hl hP hS
  exact va_get (D := g.2.1) (ci := 4) (C := RX4) (T := TX4) (N := 4) (v := .int (gI st 81 i)) hx hb hts wB_4 hown hK hP i (wat_4 hi) rfl 1 (by decide) (hts _ wf_4_15) (fun _ h => h) rfl hdg (kk H locs ls hl hP hS)
theorem p_4_15 {g : fkG} {k : fkK} {ρ : Type} {en : ρ → Option Value} {cc : ByteArray} {nL fr lo pc : Nat} {ret : Option FieldType} {lv : List (Nat × Value)} {stk : List Value} {st : fkS} (hk : fk_ok wC g k RX4 cc nL ret fr lo) {i : Nat} {v : Int32} {F1 : fkS → Option (ρ × fkS)} (hi : kdC i = 4) (hdg : decode cc pc = .ok (.putfield 15, 3))
    (kk : ∀ st1, fk_J wC g en k (pc + 3) lv stk st1 (F1 st1)) : fk_J wC g en k pc lv (.int v :: fk_r g i :: stk) st (fk_let (sI st 81 i v) F1) := by
  intro o ho hq
  have kk := kk (sI st 81 i v) o ho hq
  obtain ⟨p, l, e, R, s, m, args, below, meth, c, rv, sf⟩ := k
  obtain ⟨hx, hb, hml, hown, hts, hK, hE, hr, hlk, hinj, hfr, hlo⟩ := hk
  intro H locs ls hl hP hS
  refine va_put (D := g.2.1) (ci := 4) (C := RX4) (T := TX4) (N := 4) (v := .int v) (ty := .int) hx hb hts wB_4 tyX4 tyX4_ok nmX4 hown hK hP (fk_wD hinj _ _) hS i (wat_4 hi) rfl 1 (by decide) (hts _ wf_4_15) (fun _ h => h) rfl (by decide +kernel) rfl rfl (Nat.le_of_ble_eq_true rfl) hdg (fun H1 locs1 hP1 hD1 hS1 => kk H1 locs1 ls hl ?_ hS1)
  rw [← wst_4_1 hi]
  exact hP1
theorem wf_4_18 : Cond.fieldLink RX4 18 "PieFunnels$Reader" "text" "LPieFunnels$Shelf;" ∈ fkB := fkB_in (List.mem_of_getElem? (i := 199) (by decide +kernel)) rfl
def fk_txt {α : Type} (t : Option Nat) (F1 : Option α) (F2 : Nat → Option α) : Option α := match t with
  | none => F1
  | some t => if kdC t = 5 then F2 t else none
theorem f_4_18 {g : fkG} {k : fkK} {ρ : Type} {en : ρ → Option Value} {cc : ByteArray} {nL fr lo pc : Nat} {ret : Option FieldType} {lv : List (Nat × Value)} {stk : List Value} {st : fkS} (hk : fk_ok wC g k RX4 cc nL ret fr lo) {F1 : Option (ρ × fkS)} {F2 : Nat → Option (ρ × fkS)} (hdg : decode cc pc = .ok (.getfield 18, 3))
    (k1 : fk_J wC g en k (pc + 3) lv (.null :: stk) st F1) (k2 : ∀ t, kdC t = 5 → fk_J wC g en k (pc + 3) lv (fk_r g t :: stk) st (F2 t)) : fk_J wC g en k pc lv (fk_r g 34 :: stk) st (fk_txt (gT st) F1 F2) := by
  intro o ho hq
  have kk : fk_V wC g k (pc + 3) lv (va_rf ((gT st).map g.1) :: stk) st := by
    cases ht : gT st with
    | none =>
      rw [ht] at ho
      exact k1 o ho hq
    | some t =>
      rw [ht] at ho
      by_cases h5 : kdC t = 5
      · exact k2 t h5 o (by simpa [fk_txt, h5] using ho) hq
      · exact absurd ho (by simp [fk_txt, h5])
  obtain ⟨p, l, e, R, s, m, args, below, meth, c, rv, sf⟩ := k
  obtain ⟨hx, hb, hml, hown, hts, hK, hE, hr, hlk, hinj, hfr, hlo⟩ := hk
  intro H locs ls hl hP hS
  exact va_get (D := g.2.1) (ci := 4) (C := RX4) (T := TX4) (N := 4) (v := va_rf ((gT st).map g.1)) hx hb hts wB_4 hown hK hP 34 (wat_4 (i := 34) rfl) rfl 2 (by decide) (hts _ wf_4_18) (fun _ h => h) rfl hdg (kk H locs ls hl hP hS)
theorem p_4_18 {g : fkG} {k : fkK} {ρ : Type} {en : ρ → Option Value} {cc : ByteArray} {nL fr lo pc : Nat} {ret : Option FieldType} {lv : List (Nat × Value)} {stk : List Value} {st : fkS} (hk : fk_ok wC g k RX4 cc nL ret fr lo) {t : Nat} {F1 : fkS → Option (ρ × fkS)} (hdg : decode cc pc = .ok (.putfield 18, 3))
    (kk : ∀ st1, fk_J wC g en k (pc + 3) lv stk st1 (F1 st1)) : fk_J wC g en k pc lv (fk_r g t :: fk_r g 34 :: stk) st (fk_let (sT st (some t)) F1) := by
  intro o ho hq
  have kk := kk (sT st (some t)) o ho hq
  obtain ⟨p, l, e, R, s, m, args, below, meth, c, rv, sf⟩ := k
  obtain ⟨hx, hb, hml, hown, hts, hK, hE, hr, hlk, hinj, hfr, hlo⟩ := hk
  intro H locs ls hl hP hS
  refine va_put (D := g.2.1) (ci := 4) (C := RX4) (T := TX4) (N := 4) (v := fk_r g t) (ty := .object "PieFunnels$Shelf") hx hb hts wB_4 tyX4 tyX4_ok nmX4 hown hK hP (fk_wD hinj _ _) hS 34 (wat_4 (i := 34) rfl) rfl 2 (by decide) (hts _ wf_4_18) (fun _ h => h) rfl (by decide +kernel) rfl rfl (Nat.le_of_ble_eq_true rfl) hdg (fun H1 locs1 hP1 hD1 hS1 => kk H1 locs1 ls hl ?_ hS1)
  rw [← wst_4_T]
  exact hP1
theorem wf_4_22 : Cond.fieldLink RX4 22 "PieFunnels$Reader" "numbers" "[I" ∈ fkB := fkB_in (List.mem_of_getElem? (i := 200) (by decide +kernel)) rfl
theorem f_4_22 {g : fkG} {k : fkK} {ρ : Type} {en : ρ → Option Value} {cc : ByteArray} {nL fr lo pc : Nat} {ret : Option FieldType} {lv : List (Nat × Value)} {stk : List Value} {st : fkS} {F : Option (ρ × fkS)} (hk : fk_ok wC g k RX4 cc nL ret fr lo) {i : Nat} (hi : kdC i = 4) (hdg : decode cc pc = .ok (.getfield 22, 3))
    (kk : fk_J wC g en k (pc + 3) lv (fk_r g (i + 1) :: stk) st F) : fk_J wC g en k pc lv (fk_r g i :: stk) st F := by
  intro o ho hq
  have kk := kk o ho hq
  obtain ⟨p, l, e, R, s, m, args, below, meth, c, rv, sf⟩ := k
  obtain ⟨hx, hb, hml, hown, hts, hK, hE, hr, hlk, hinj, hfr, hlo⟩ := hk
  intro H locs ls hl hP hS
  exact va_get (D := g.2.1) (ci := 4) (C := RX4) (T := TX4) (N := 4) (v := fk_r g (i + 1)) hx hb hts wB_4 hown hK hP i (wat_4 hi) rfl 3 (by decide) (hts _ wf_4_22) (fun _ h => h) rfl hdg (kk H locs ls hl hP hS)
theorem wf_1_9 : Cond.fieldLink RX1 9 "PieFunnels$Moves" "trace" "[I" ∈ fkB := fkB_in (List.mem_of_getElem? (i := 216) (by decide +kernel)) rfl
theorem f_1_9 {g : fkG} {k : fkK} {ρ : Type} {en : ρ → Option Value} {cc : ByteArray} {nL fr lo pc : Nat} {ret : Option FieldType} {lv : List (Nat × Value)} {stk : List Value} {st : fkS} {F : Option (ρ × fkS)} (hk : fk_ok wC g k RX1 cc nL ret fr lo) {i : Nat} (hi : kdC i = 1) (hdg : decode cc pc = .ok (.getfield 9, 3))
    (kk : fk_J wC g en k (pc + 3) lv (fk_r g (i + 1) :: stk) st F) : fk_J wC g en k pc lv (fk_r g i :: stk) st F := by
  intro o ho hq
  have kk := kk o ho hq
  obtain ⟨p, l, e, R, s, m, args, below, meth, c, rv, sf⟩ := k
  obtain ⟨hx, hb, hml, hown, hts, hK, hE, hr, hlk, hinj, hfr, hlo⟩ := hk
  intro H locs ls hl hP hS
  exact va_get (D := g.2.1) (ci := 1) (C := RX1) (T := TX1) (N := 5) (v := fk_r g (i + 1)) hx hb hts wB_1 hown hK hP i (wat_1 hi) rfl 0 (by decide) (hts _ wf_1_9) (fun _ h => h) rfl hdg (kk H locs ls hl hP hS)
theorem wf_7_325 : Cond.fieldLinkNest RX7 325 "PieFunnels$Moves" "trace" "[I" "PieFunnels" ∈ fk_nests := List.mem_of_getElem? (i := 21) (by decide +kernel)
theorem f_7_325 {g : fkG} {k : fkK} {ρ : Type} {en : ρ → Option Value} {cc : ByteArray} {nL fr lo pc : Nat} {ret : Option FieldType} {lv : List (Nat × Value)} {stk : List Value} {st : fkS} {F : Option (ρ × fkS)} (hk : fk_ok wC g k RX7 cc nL ret fr lo) {i : Nat} (hi : kdC i = 1) (hdg : decode cc pc = .ok (.getfield 325, 3))
    (kk : fk_J wC g en k (pc + 3) lv (fk_r g (i + 1) :: stk) st F) : fk_J wC g en k pc lv (fk_r g i :: stk) st F := by
  intro o ho hq
  have kk := kk o ho hq
  obtain ⟨p, l, e, R, s, m, args, below, meth, c, rv, sf⟩ := k
  obtain ⟨hx, hb, hml, hown, hts, hK, hE, hr, hlk, hinj, hfr, hlo⟩ := hk
  intro H locs ls hl hP hS
  exact va_getN (D := g.2.1) (ci := 1) (C := RX1) (T := TX1) (N := 5) (v := fk_r g (i + 1)) hx hb hts wB_1 hown hK hP i (wat_1 hi) rfl 0 (by decide) (va_Nw.use rfl (hE.1 _ wf_7_325)) (fun _ h => h) rfl hdg (kk H locs ls hl hP hS)
theorem wf_1_15 : Cond.fieldLink RX1 15 "PieFunnels$Moves" "ran" "I" ∈ fkB := fkB_in (List.mem_of_getElem? (i := 218) (by decide +kernel)) rfl
theorem f_1_15 {g : fkG} {k : fkK} {ρ : Type} {en : ρ → Option Value} {cc : ByteArray} {nL fr lo pc : Nat} {ret : Option FieldType} {lv : List (Nat × Value)} {stk : List Value} {st : fkS} (hk : fk_ok wC g k RX1 cc nL ret fr lo) {i : Nat} {F1 : Int32 → Option (ρ × fkS)} (hi : kdC i = 1) (hdg : decode cc pc = .ok (.getfield 15, 3))
    (kk : ∀ x, fk_J wC g en k (pc + 3) lv (.int x :: stk) st (F1 x)) : fk_J wC g en k pc lv (fk_r g i :: stk) st (fk_let (gI st 21 i) F1) := by
  intro o ho hq
  have kk := kk (gI st 21 i) o ho hq
  obtain ⟨p, l, e, R, s, m, args, below, meth, c, rv, sf⟩ := k
  obtain ⟨hx, hb, hml, hown, hts, hK, hE, hr, hlk, hinj, hfr, hlo⟩ := hk
  intro H locs ls hl hP hS
  exact va_get (D := g.2.1) (ci := 1) (C := RX1) (T := TX1) (N := 5) (v := .int (gI st 21 i)) hx hb hts wB_1 hown hK hP i (wat_1 hi) rfl 1 (by decide) (hts _ wf_1_15) (fun _ h => h) rfl hdg (kk H locs ls hl hP hS)
theorem p_1_15 {g : fkG} {k : fkK} {ρ : Type} {en : ρ → Option Value} {cc : ByteArray} {nL fr lo pc : Nat} {ret : Option FieldType} {lv : List (Nat × Value)} {stk : List Value} {st : fkS} (hk : fk_ok wC g k RX1 cc nL ret fr lo) {i : Nat} {v : Int32} {F1 : fkS → Option (ρ × fkS)} (hi : kdC i = 1) (hdg : decode cc pc = .ok (.putfield 15, 3))
    (kk : ∀ st1, fk_J wC g en k (pc + 3) lv stk st1 (F1 st1)) : fk_J wC g en k pc lv (.int v :: fk_r g i :: stk) st (fk_let (sI st 21 i v) F1) := by
  intro o ho hq
  have kk := kk (sI st 21 i v) o ho hq
  obtain ⟨p, l, e, R, s, m, args, below, meth, c, rv, sf⟩ := k
  obtain ⟨hx, hb, hml, hown, hts, hK, hE, hr, hlk, hinj, hfr, hlo⟩ := hk
  intro H locs ls hl hP hS
  refine va_put (D := g.2.1) (ci := 1) (C := RX1) (T := TX1) (N := 5) (v := .int v) (ty := .int) hx hb hts wB_1 tyX1 tyX1_ok nmX1 hown hK hP (fk_wD hinj _ _) hS i (wat_1 hi) rfl 1 (by decide) (hts _ wf_1_15) (fun _ h => h) rfl (by decide +kernel) rfl rfl (Nat.le_of_ble_eq_true rfl) hdg (fun H1 locs1 hP1 hD1 hS1 => kk H1 locs1 ls hl ?_ hS1)
  rw [← wst_1_1 hi]
  exact hP1
theorem wf_7_331 : Cond.fieldLinkNest RX7 331 "PieFunnels$Moves" "ran" "I" "PieFunnels" ∈ fk_nests := List.mem_of_getElem? (i := 22) (by decide +kernel)
theorem f_7_331 {g : fkG} {k : fkK} {ρ : Type} {en : ρ → Option Value} {cc : ByteArray} {nL fr lo pc : Nat} {ret : Option FieldType} {lv : List (Nat × Value)} {stk : List Value} {st : fkS} (hk : fk_ok wC g k RX7 cc nL ret fr lo) {i : Nat} {F1 : Int32 → Option (ρ × fkS)} (hi : kdC i = 1) (hdg : decode cc pc = .ok (.getfield 331, 3))
    (kk : ∀ x, fk_J wC g en k (pc + 3) lv (.int x :: stk) st (F1 x)) : fk_J wC g en k pc lv (fk_r g i :: stk) st (fk_let (gI st 21 i) F1) := by
  intro o ho hq
  have kk := kk (gI st 21 i) o ho hq
  obtain ⟨p, l, e, R, s, m, args, below, meth, c, rv, sf⟩ := k
  obtain ⟨hx, hb, hml, hown, hts, hK, hE, hr, hlk, hinj, hfr, hlo⟩ := hk
  intro H locs ls hl hP hS
  exact va_getN (D := g.2.1) (ci := 1) (C := RX1) (T := TX1) (N := 5) (v := .int (gI st 21 i)) hx hb hts wB_1 hown hK hP i (wat_1 hi) rfl 1 (by decide) (va_Nw.use rfl (hE.1 _ wf_7_331)) (fun _ h => h) rfl hdg (kk H locs ls hl hP hS)
theorem p_7_331 {g : fkG} {k : fkK} {ρ : Type} {en : ρ → Option Value} {cc : ByteArray} {nL fr lo pc : Nat} {ret : Option FieldType} {lv : List (Nat × Value)} {stk : List Value} {st : fkS} (hk : fk_ok wC g k RX7 cc nL ret fr lo) {i : Nat} {v : Int32} {F1 : fkS → Option (ρ × fkS)} (hi : kdC i = 1) (hdg : decode cc pc = .ok (.putfield 331, 3))
    (kk : ∀ st1, fk_J wC g en k (pc + 3) lv stk st1 (F1 st1)) : fk_J wC g en k pc lv (.int v :: fk_r g i :: stk) st (fk_let (sI st 21 i v) F1) := by
  intro o ho hq
  have kk := kk (sI st 21 i v) o ho hq
  obtain ⟨p, l, e, R, s, m, args, below, meth, c, rv, sf⟩ := k
  obtain ⟨hx, hb, hml, hown, hts, hK, hE, hr, hlk, hinj, hfr, hlo⟩ := hk
  intro H locs ls hl hP hS
  refine va_putN (D := g.2.1) (ci := 1) (C := RX1) (T := TX1) (N := 5) (v := .int v) (ty := .int) hx hb hts wB_1 tyX1 tyX1_ok nmX1 hown hK hP (fk_wD hinj _ _) hS i (wat_1 hi) rfl 1 (by decide) (va_Nw.use rfl (hE.1 _ wf_7_331)) (fun _ h => h) rfl (by decide +kernel) rfl rfl (Nat.le_of_ble_eq_true rfl) hdg (fun H1 locs1 hP1 hD1 hS1 => kk H1 locs1 ls hl ?_ hS1)
  rw [← wst_1_1 hi]
  exact hP1
theorem wf_1_19 : Cond.fieldLink RX1 19 "PieFunnels$Moves" "kind" "I" ∈ fkB := fkB_in (List.mem_of_getElem? (i := 220) (by decide +kernel)) rfl
theorem f_1_19 {g : fkG} {k : fkK} {ρ : Type} {en : ρ → Option Value} {cc : ByteArray} {nL fr lo pc : Nat} {ret : Option FieldType} {lv : List (Nat × Value)} {stk : List Value} {st : fkS} (hk : fk_ok wC g k RX1 cc nL ret fr lo) {i : Nat} {F1 : Int32 → Option (ρ × fkS)} (hi : kdC i = 1) (hdg : decode cc pc = .ok (.getfield 19, 3))
    (kk : ∀ x, fk_J wC g en k (pc + 3) lv (.int x :: stk) st (F1 x)) : fk_J wC g en k pc lv (fk_r g i :: stk) st (fk_let (gI st 22 i) F1) := by
  intro o ho hq
  have kk := kk (gI st 22 i) o ho hq
  obtain ⟨p, l, e, R, s, m, args, below, meth, c, rv, sf⟩ := k
  obtain ⟨hx, hb, hml, hown, hts, hK, hE, hr, hlk, hinj, hfr, hlo⟩ := hk
  intro H locs ls hl hP hS
  exact va_get (D := g.2.1) (ci := 1) (C := RX1) (T := TX1) (N := 5) (v := .int (gI st 22 i)) hx hb hts wB_1 hown hK hP i (wat_1 hi) rfl 2 (by decide) (hts _ wf_1_19) (fun _ h => h) rfl hdg (kk H locs ls hl hP hS)
theorem p_1_19 {g : fkG} {k : fkK} {ρ : Type} {en : ρ → Option Value} {cc : ByteArray} {nL fr lo pc : Nat} {ret : Option FieldType} {lv : List (Nat × Value)} {stk : List Value} {st : fkS} (hk : fk_ok wC g k RX1 cc nL ret fr lo) {i : Nat} {v : Int32} {F1 : fkS → Option (ρ × fkS)} (hi : kdC i = 1) (hdg : decode cc pc = .ok (.putfield 19, 3))
    (kk : ∀ st1, fk_J wC g en k (pc + 3) lv stk st1 (F1 st1)) : fk_J wC g en k pc lv (.int v :: fk_r g i :: stk) st (fk_let (sI st 22 i v) F1) := by
  intro o ho hq
  have kk := kk (sI st 22 i v) o ho hq
  obtain ⟨p, l, e, R, s, m, args, below, meth, c, rv, sf⟩ := k
  obtain ⟨hx, hb, hml, hown, hts, hK, hE, hr, hlk, hinj, hfr, hlo⟩ := hk
  intro H locs ls hl hP hS
  refine va_put (D := g.2.1) (ci := 1) (C := RX1) (T := TX1) (N := 5) (v := .int v) (ty := .int) hx hb hts wB_1 tyX1 tyX1_ok nmX1 hown hK hP (fk_wD hinj _ _) hS i (wat_1 hi) rfl 2 (by decide) (hts _ wf_1_19) (fun _ h => h) rfl (by decide +kernel) rfl rfl (Nat.le_of_ble_eq_true rfl) hdg (fun H1 locs1 hP1 hD1 hS1 => kk H1 locs1 ls hl ?_ hS1)
  rw [← wst_1_2 hi]
  exact hP1
theorem wf_7_315 : Cond.fieldLinkNest RX7 315 "PieFunnels$Moves" "kind" "I" "PieFunnels" ∈ fk_nests := List.mem_of_getElem? (i := 23) (by decide +kernel)
theorem f_7_315 {g : fkG} {k : fkK} {ρ : Type} {en : ρ → Option Value} {cc : ByteArray} {nL fr lo pc : Nat} {ret : Option FieldType} {lv : List (Nat × Value)} {stk : List Value} {st : fkS} (hk : fk_ok wC g k RX7 cc nL ret fr lo) {i : Nat} {F1 : Int32 → Option (ρ × fkS)} (hi : kdC i = 1) (hdg : decode cc pc = .ok (.getfield 315, 3))
    (kk : ∀ x, fk_J wC g en k (pc + 3) lv (.int x :: stk) st (F1 x)) : fk_J wC g en k pc lv (fk_r g i :: stk) st (fk_let (gI st 22 i) F1) := by
  intro o ho hq
  have kk := kk (gI st 22 i) o ho hq
  obtain ⟨p, l, e, R, s, m, args, below, meth, c, rv, sf⟩ := k
  obtain ⟨hx, hb, hml, hown, hts, hK, hE, hr, hlk, hinj, hfr, hlo⟩ := hk
  intro H locs ls hl hP hS
  exact va_getN (D := g.2.1) (ci := 1) (C := RX1) (T := TX1) (N := 5) (v := .int (gI st 22 i)) hx hb hts wB_1 hown hK hP i (wat_1 hi) rfl 2 (by decide) (va_Nw.use rfl (hE.1 _ wf_7_315)) (fun _ h => h) rfl hdg (kk H locs ls hl hP hS)
theorem p_7_315 {g : fkG} {k : fkK} {ρ : Type} {en : ρ → Option Value} {cc : ByteArray} {nL fr lo pc : Nat} {ret : Option FieldType} {lv : List (Nat × Value)} {stk : List Value} {st : fkS} (hk : fk_ok wC g k RX7 cc nL ret fr lo) {i : Nat} {v : Int32} {F1 : fkS → Option (ρ × fkS)} (hi : kdC i = 1) (hdg : decode cc pc = .ok (.putfield 315, 3))
    (kk : ∀ st1, fk_J wC g en k (pc + 3) lv stk st1 (F1 st1)) : fk_J wC g en k pc lv (.int v :: fk_r g i :: stk) st (fk_let (sI st 22 i v) F1) := by
  intro o ho hq
  have kk := kk (sI st 22 i v) o ho hq
  obtain ⟨p, l, e, R, s, m, args, below, meth, c, rv, sf⟩ := k
  obtain ⟨hx, hb, hml, hown, hts, hK, hE, hr, hlk, hinj, hfr, hlo⟩ := hk
  intro H locs ls hl hP hS
  refine va_putN (D := g.2.1) (ci := 1) (C := RX1) (T := TX1) (N := 5) (v := .int v) (ty := .int) hx hb hts wB_1 tyX1 tyX1_ok nmX1 hown hK hP (fk_wD hinj _ _) hS i (wat_1 hi) rfl 2 (by decide) (va_Nw.use rfl (hE.1 _ wf_7_315)) (fun _ h => h) rfl (by decide +kernel) rfl rfl (Nat.le_of_ble_eq_true rfl) hdg (fun H1 locs1 hP1 hD1 hS1 => kk H1 locs1 ls hl ?_ hS1)
  rw [← wst_1_2 hi]
  exact hP1
theorem wf_1_22 : Cond.fieldLink RX1 22 "PieFunnels$Moves" "number" "I" ∈ fkB := fkB_in (List.mem_of_getElem? (i := 222) (by decide +kernel)) rfl
theorem f_1_22 {g : fkG} {k : fkK} {ρ : Type} {en : ρ → Option Value} {cc : ByteArray} {nL fr lo pc : Nat} {ret : Option FieldType} {lv : List (Nat × Value)} {stk : List Value} {st : fkS} (hk : fk_ok wC g k RX1 cc nL ret fr lo) {i : Nat} {F1 : Int32 → Option (ρ × fkS)} (hi : kdC i = 1) (hdg : decode cc pc = .ok (.getfield 22, 3))
    (kk : ∀ x, fk_J wC g en k (pc + 3) lv (.int x :: stk) st (F1 x)) : fk_J wC g en k pc lv (fk_r g i :: stk) st (fk_let (gI st 23 i) F1) := by
  intro o ho hq
  have kk := kk (gI st 23 i) o ho hq
  obtain ⟨p, l, e, R, s, m, args, below, meth, c, rv, sf⟩ := k
  obtain ⟨hx, hb, hml, hown, hts, hK, hE, hr, hlk, hinj, hfr, hlo⟩ := hk
  intro H locs ls hl hP hS
  exact va_get (D := g.2.1) (ci := 1) (C := RX1) (T := TX1) (N := 5) (v := .int (gI st 23 i)) hx hb hts wB_1 hown hK hP i (wat_1 hi) rfl 3 (by decide) (hts _ wf_1_22) (fun _ h => h) rfl hdg (kk H locs ls hl hP hS)
theorem p_1_22 {g : fkG} {k : fkK} {ρ : Type} {en : ρ → Option Value} {cc : ByteArray} {nL fr lo pc : Nat} {ret : Option FieldType} {lv : List (Nat × Value)} {stk : List Value} {st : fkS} (hk : fk_ok wC g k RX1 cc nL ret fr lo) {i : Nat} {v : Int32} {F1 : fkS → Option (ρ × fkS)} (hi : kdC i = 1) (hdg : decode cc pc = .ok (.putfield 22, 3))
    (kk : ∀ st1, fk_J wC g en k (pc + 3) lv stk st1 (F1 st1)) : fk_J wC g en k pc lv (.int v :: fk_r g i :: stk) st (fk_let (sI st 23 i v) F1) := by
  intro o ho hq
  have kk := kk (sI st 23 i v) o ho hq
  obtain ⟨p, l, e, R, s, m, args, below, meth, c, rv, sf⟩ := k
  obtain ⟨hx, hb, hml, hown, hts, hK, hE, hr, hlk, hinj, hfr, hlo⟩ := hk
  intro H locs ls hl hP hS
  refine va_put (D := g.2.1) (ci := 1) (C := RX1) (T := TX1) (N := 5) (v := .int v) (ty := .int) hx hb hts wB_1 tyX1 tyX1_ok nmX1 hown hK hP (fk_wD hinj _ _) hS i (wat_1 hi) rfl 3 (by decide) (hts _ wf_1_22) (fun _ h => h) rfl (by decide +kernel) rfl rfl (Nat.le_of_ble_eq_true rfl) hdg (fun H1 locs1 hP1 hD1 hS1 => kk H1 locs1 ls hl ?_ hS1)
  rw [← wst_1_3 hi]
  exact hP1
theorem wf_1_25 : Cond.fieldLink RX1 25 "PieFunnels$Moves" "a" "I" ∈ fkB := fkB_in (List.mem_of_getElem? (i := 223) (by decide +kernel)) rfl
theorem f_1_25 {g : fkG} {k : fkK} {ρ : Type} {en : ρ → Option Value} {cc : ByteArray} {nL fr lo pc : Nat} {ret : Option FieldType} {lv : List (Nat × Value)} {stk : List Value} {st : fkS} (hk : fk_ok wC g k RX1 cc nL ret fr lo) {i : Nat} {F1 : Int32 → Option (ρ × fkS)} (hi : kdC i = 1) (hdg : decode cc pc = .ok (.getfield 25, 3))
    (kk : ∀ x, fk_J wC g en k (pc + 3) lv (.int x :: stk) st (F1 x)) : fk_J wC g en k pc lv (fk_r g i :: stk) st (fk_let (gI st 24 i) F1) := by
  intro o ho hq
  have kk := kk (gI st 24 i) o ho hq
  obtain ⟨p, l, e, R, s, m, args, below, meth, c, rv, sf⟩ := k
  obtain ⟨hx, hb, hml, hown, hts, hK, hE, hr, hlk, hinj, hfr, hlo⟩ := hk
  intro H locs ls hl hP hS
  exact va_get (D := g.2.1) (ci := 1) (C := RX1) (T := TX1) (N := 5) (v := .int (gI st 24 i)) hx hb hts wB_1 hown hK hP i (wat_1 hi) rfl 4 (by decide) (hts _ wf_1_25) (fun _ h => h) rfl hdg (kk H locs ls hl hP hS)
theorem p_1_25 {g : fkG} {k : fkK} {ρ : Type} {en : ρ → Option Value} {cc : ByteArray} {nL fr lo pc : Nat} {ret : Option FieldType} {lv : List (Nat × Value)} {stk : List Value} {st : fkS} (hk : fk_ok wC g k RX1 cc nL ret fr lo) {i : Nat} {v : Int32} {F1 : fkS → Option (ρ × fkS)} (hi : kdC i = 1) (hdg : decode cc pc = .ok (.putfield 25, 3))
    (kk : ∀ st1, fk_J wC g en k (pc + 3) lv stk st1 (F1 st1)) : fk_J wC g en k pc lv (.int v :: fk_r g i :: stk) st (fk_let (sI st 24 i v) F1) := by
  intro o ho hq
  have kk := kk (sI st 24 i v) o ho hq
  obtain ⟨p, l, e, R, s, m, args, below, meth, c, rv, sf⟩ := k
  obtain ⟨hx, hb, hml, hown, hts, hK, hE, hr, hlk, hinj, hfr, hlo⟩ := hk
  intro H locs ls hl hP hS
  refine va_put (D := g.2.1) (ci := 1) (C := RX1) (T := TX1) (N := 5) (v := .int v) (ty := .int) hx hb hts wB_1 tyX1 tyX1_ok nmX1 hown hK hP (fk_wD hinj _ _) hS i (wat_1 hi) rfl 4 (by decide) (hts _ wf_1_25) (fun _ h => h) rfl (by decide +kernel) rfl rfl (Nat.le_of_ble_eq_true rfl) hdg (fun H1 locs1 hP1 hD1 hS1 => kk H1 locs1 ls hl ?_ hS1)
  rw [← wst_1_4 hi]
  exact hP1
theorem wf_3_9 : Cond.fieldLink RX3 9 "PieFunnels$Pie" "stuffings" "[I" ∈ fkB := fkB_in (List.mem_of_getElem? (i := 241) (by decide +kernel)) rfl
theorem f_3_9 {g : fkG} {k : fkK} {ρ : Type} {en : ρ → Option Value} {cc : ByteArray} {nL fr lo pc : Nat} {ret : Option FieldType} {lv : List (Nat × Value)} {stk : List Value} {st : fkS} {F : Option (ρ × fkS)} (hk : fk_ok wC g k RX3 cc nL ret fr lo) {i : Nat} (hi : kdC i = 3) (hdg : decode cc pc = .ok (.getfield 9, 3))
    (kk : fk_J wC g en k (pc + 3) lv (fk_r g (i + 1) :: stk) st F) : fk_J wC g en k pc lv (fk_r g i :: stk) st F := by
  intro o ho hq
  have kk := kk o ho hq
  obtain ⟨p, l, e, R, s, m, args, below, meth, c, rv, sf⟩ := k
  obtain ⟨hx, hb, hml, hown, hts, hK, hE, hr, hlk, hinj, hfr, hlo⟩ := hk
  intro H locs ls hl hP hS
  exact va_get (D := g.2.1) (ci := 3) (C := RX3) (T := TX3) (N := 2) (v := fk_r g (i + 1)) hx hb hts wB_3 hown hK hP i (wat_3 hi) rfl 0 (by decide) (hts _ wf_3_9) (fun _ h => h) rfl hdg (kk H locs ls hl hP hS)
theorem wf_6_83 : Cond.fieldLinkNest RX6 83 "PieFunnels$Pie" "stuffings" "[I" "PieFunnels" ∈ fk_nests := List.mem_of_getElem? (i := 24) (by decide +kernel)
theorem f_6_83 {g : fkG} {k : fkK} {ρ : Type} {en : ρ → Option Value} {cc : ByteArray} {nL fr lo pc : Nat} {ret : Option FieldType} {lv : List (Nat × Value)} {stk : List Value} {st : fkS} {F : Option (ρ × fkS)} (hk : fk_ok wC g k RX6 cc nL ret fr lo) {i : Nat} (hi : kdC i = 3) (hdg : decode cc pc = .ok (.getfield 83, 3))
    (kk : fk_J wC g en k (pc + 3) lv (fk_r g (i + 1) :: stk) st F) : fk_J wC g en k pc lv (fk_r g i :: stk) st F := by
  intro o ho hq
  have kk := kk o ho hq
  obtain ⟨p, l, e, R, s, m, args, below, meth, c, rv, sf⟩ := k
  obtain ⟨hx, hb, hml, hown, hts, hK, hE, hr, hlk, hinj, hfr, hlo⟩ := hk
  intro H locs ls hl hP hS
  exact va_getN (D := g.2.1) (ci := 3) (C := RX3) (T := TX3) (N := 2) (v := fk_r g (i + 1)) hx hb hts wB_3 hown hK hP i (wat_3 hi) rfl 0 (by decide) (va_Nw.use rfl (hE.1 _ wf_6_83)) (fun _ h => h) rfl hdg (kk H locs ls hl hP hS)
theorem wf_7_231 : Cond.fieldLinkNest RX7 231 "PieFunnels$Pie" "stuffings" "[I" "PieFunnels" ∈ fk_nests := List.mem_of_getElem? (i := 25) (by decide +kernel)
theorem f_7_231 {g : fkG} {k : fkK} {ρ : Type} {en : ρ → Option Value} {cc : ByteArray} {nL fr lo pc : Nat} {ret : Option FieldType} {lv : List (Nat × Value)} {stk : List Value} {st : fkS} {F : Option (ρ × fkS)} (hk : fk_ok wC g k RX7 cc nL ret fr lo) {i : Nat} (hi : kdC i = 3) (hdg : decode cc pc = .ok (.getfield 231, 3))
    (kk : fk_J wC g en k (pc + 3) lv (fk_r g (i + 1) :: stk) st F) : fk_J wC g en k pc lv (fk_r g i :: stk) st F := by
  intro o ho hq
  have kk := kk o ho hq
  obtain ⟨p, l, e, R, s, m, args, below, meth, c, rv, sf⟩ := k
  obtain ⟨hx, hb, hml, hown, hts, hK, hE, hr, hlk, hinj, hfr, hlo⟩ := hk
  intro H locs ls hl hP hS
  exact va_getN (D := g.2.1) (ci := 3) (C := RX3) (T := TX3) (N := 2) (v := fk_r g (i + 1)) hx hb hts wB_3 hown hK hP i (wat_3 hi) rfl 0 (by decide) (va_Nw.use rfl (hE.1 _ wf_7_231)) (fun _ h => h) rfl hdg (kk H locs ls hl hP hS)
theorem wf_3_15 : Cond.fieldLink RX3 15 "PieFunnels$Pie" "layers" "I" ∈ fkB := fkB_in (List.mem_of_getElem? (i := 244) (by decide +kernel)) rfl
theorem f_3_15 {g : fkG} {k : fkK} {ρ : Type} {en : ρ → Option Value} {cc : ByteArray} {nL fr lo pc : Nat} {ret : Option FieldType} {lv : List (Nat × Value)} {stk : List Value} {st : fkS} (hk : fk_ok wC g k RX3 cc nL ret fr lo) {i : Nat} {F1 : Int32 → Option (ρ × fkS)} (hi : kdC i = 3) (hdg : decode cc pc = .ok (.getfield 15, 3))
    (kk : ∀ x, fk_J wC g en k (pc + 3) lv (.int x :: stk) st (F1 x)) : fk_J wC g en k pc lv (fk_r g i :: stk) st (fk_let (gI st 61 i) F1) := by
  intro o ho hq
  have kk := kk (gI st 61 i) o ho hq
  obtain ⟨p, l, e, R, s, m, args, below, meth, c, rv, sf⟩ := k
  obtain ⟨hx, hb, hml, hown, hts, hK, hE, hr, hlk, hinj, hfr, hlo⟩ := hk
  intro H locs ls hl hP hS
  exact va_get (D := g.2.1) (ci := 3) (C := RX3) (T := TX3) (N := 2) (v := .int (gI st 61 i)) hx hb hts wB_3 hown hK hP i (wat_3 hi) rfl 1 (by decide) (hts _ wf_3_15) (fun _ h => h) rfl hdg (kk H locs ls hl hP hS)
theorem p_3_15 {g : fkG} {k : fkK} {ρ : Type} {en : ρ → Option Value} {cc : ByteArray} {nL fr lo pc : Nat} {ret : Option FieldType} {lv : List (Nat × Value)} {stk : List Value} {st : fkS} (hk : fk_ok wC g k RX3 cc nL ret fr lo) {i : Nat} {v : Int32} {F1 : fkS → Option (ρ × fkS)} (hi : kdC i = 3) (hdg : decode cc pc = .ok (.putfield 15, 3))
    (kk : ∀ st1, fk_J wC g en k (pc + 3) lv stk st1 (F1 st1)) : fk_J wC g en k pc lv (.int v :: fk_r g i :: stk) st (fk_let (sI st 61 i v) F1) := by
  intro o ho hq
  have kk := kk (sI st 61 i v) o ho hq
  obtain ⟨p, l, e, R, s, m, args, below, meth, c, rv, sf⟩ := k
  obtain ⟨hx, hb, hml, hown, hts, hK, hE, hr, hlk, hinj, hfr, hlo⟩ := hk
  intro H locs ls hl hP hS
  refine va_put (D := g.2.1) (ci := 3) (C := RX3) (T := TX3) (N := 2) (v := .int v) (ty := .int) hx hb hts wB_3 tyX3 tyX3_ok nmX3 hown hK hP (fk_wD hinj _ _) hS i (wat_3 hi) rfl 1 (by decide) (hts _ wf_3_15) (fun _ h => h) rfl (by decide +kernel) rfl rfl (Nat.le_of_ble_eq_true rfl) hdg (fun H1 locs1 hP1 hD1 hS1 => kk H1 locs1 ls hl ?_ hS1)
  rw [← wst_3_1 hi]
  exact hP1
theorem wf_6_69 : Cond.fieldLinkNest RX6 69 "PieFunnels$Pie" "layers" "I" "PieFunnels" ∈ fk_nests := List.mem_of_getElem? (i := 26) (by decide +kernel)
theorem f_6_69 {g : fkG} {k : fkK} {ρ : Type} {en : ρ → Option Value} {cc : ByteArray} {nL fr lo pc : Nat} {ret : Option FieldType} {lv : List (Nat × Value)} {stk : List Value} {st : fkS} (hk : fk_ok wC g k RX6 cc nL ret fr lo) {i : Nat} {F1 : Int32 → Option (ρ × fkS)} (hi : kdC i = 3) (hdg : decode cc pc = .ok (.getfield 69, 3))
    (kk : ∀ x, fk_J wC g en k (pc + 3) lv (.int x :: stk) st (F1 x)) : fk_J wC g en k pc lv (fk_r g i :: stk) st (fk_let (gI st 61 i) F1) := by
  intro o ho hq
  have kk := kk (gI st 61 i) o ho hq
  obtain ⟨p, l, e, R, s, m, args, below, meth, c, rv, sf⟩ := k
  obtain ⟨hx, hb, hml, hown, hts, hK, hE, hr, hlk, hinj, hfr, hlo⟩ := hk
  intro H locs ls hl hP hS
  exact va_getN (D := g.2.1) (ci := 3) (C := RX3) (T := TX3) (N := 2) (v := .int (gI st 61 i)) hx hb hts wB_3 hown hK hP i (wat_3 hi) rfl 1 (by decide) (va_Nw.use rfl (hE.1 _ wf_6_69)) (fun _ h => h) rfl hdg (kk H locs ls hl hP hS)
theorem p_6_69 {g : fkG} {k : fkK} {ρ : Type} {en : ρ → Option Value} {cc : ByteArray} {nL fr lo pc : Nat} {ret : Option FieldType} {lv : List (Nat × Value)} {stk : List Value} {st : fkS} (hk : fk_ok wC g k RX6 cc nL ret fr lo) {i : Nat} {v : Int32} {F1 : fkS → Option (ρ × fkS)} (hi : kdC i = 3) (hdg : decode cc pc = .ok (.putfield 69, 3))
    (kk : ∀ st1, fk_J wC g en k (pc + 3) lv stk st1 (F1 st1)) : fk_J wC g en k pc lv (.int v :: fk_r g i :: stk) st (fk_let (sI st 61 i v) F1) := by
  intro o ho hq
  have kk := kk (sI st 61 i v) o ho hq
  obtain ⟨p, l, e, R, s, m, args, below, meth, c, rv, sf⟩ := k
  obtain ⟨hx, hb, hml, hown, hts, hK, hE, hr, hlk, hinj, hfr, hlo⟩ := hk
  intro H locs ls hl hP hS
  refine va_putN (D := g.2.1) (ci := 3) (C := RX3) (T := TX3) (N := 2) (v := .int v) (ty := .int) hx hb hts wB_3 tyX3 tyX3_ok nmX3 hown hK hP (fk_wD hinj _ _) hS i (wat_3 hi) rfl 1 (by decide) (va_Nw.use rfl (hE.1 _ wf_6_69)) (fun _ h => h) rfl (by decide +kernel) rfl rfl (Nat.le_of_ble_eq_true rfl) hdg (fun H1 locs1 hP1 hD1 hS1 => kk H1 locs1 ls hl ?_ hS1)
  rw [← wst_3_1 hi]
  exact hP1
theorem wf_7_228 : Cond.fieldLinkNest RX7 228 "PieFunnels$Pie" "layers" "I" "PieFunnels" ∈ fk_nests := List.mem_of_getElem? (i := 27) (by decide +kernel)
theorem f_7_228 {g : fkG} {k : fkK} {ρ : Type} {en : ρ → Option Value} {cc : ByteArray} {nL fr lo pc : Nat} {ret : Option FieldType} {lv : List (Nat × Value)} {stk : List Value} {st : fkS} (hk : fk_ok wC g k RX7 cc nL ret fr lo) {i : Nat} {F1 : Int32 → Option (ρ × fkS)} (hi : kdC i = 3) (hdg : decode cc pc = .ok (.getfield 228, 3))
    (kk : ∀ x, fk_J wC g en k (pc + 3) lv (.int x :: stk) st (F1 x)) : fk_J wC g en k pc lv (fk_r g i :: stk) st (fk_let (gI st 61 i) F1) := by
  intro o ho hq
  have kk := kk (gI st 61 i) o ho hq
  obtain ⟨p, l, e, R, s, m, args, below, meth, c, rv, sf⟩ := k
  obtain ⟨hx, hb, hml, hown, hts, hK, hE, hr, hlk, hinj, hfr, hlo⟩ := hk
  intro H locs ls hl hP hS
  exact va_getN (D := g.2.1) (ci := 3) (C := RX3) (T := TX3) (N := 2) (v := .int (gI st 61 i)) hx hb hts wB_3 hown hK hP i (wat_3 hi) rfl 1 (by decide) (va_Nw.use rfl (hE.1 _ wf_7_228)) (fun _ h => h) rfl hdg (kk H locs ls hl hP hS)
theorem p_7_228 {g : fkG} {k : fkK} {ρ : Type} {en : ρ → Option Value} {cc : ByteArray} {nL fr lo pc : Nat} {ret : Option FieldType} {lv : List (Nat × Value)} {stk : List Value} {st : fkS} (hk : fk_ok wC g k RX7 cc nL ret fr lo) {i : Nat} {v : Int32} {F1 : fkS → Option (ρ × fkS)} (hi : kdC i = 3) (hdg : decode cc pc = .ok (.putfield 228, 3))
    (kk : ∀ st1, fk_J wC g en k (pc + 3) lv stk st1 (F1 st1)) : fk_J wC g en k pc lv (.int v :: fk_r g i :: stk) st (fk_let (sI st 61 i v) F1) := by
  intro o ho hq
  have kk := kk (sI st 61 i v) o ho hq
  obtain ⟨p, l, e, R, s, m, args, below, meth, c, rv, sf⟩ := k
  obtain ⟨hx, hb, hml, hown, hts, hK, hE, hr, hlk, hinj, hfr, hlo⟩ := hk
  intro H locs ls hl hP hS
  refine va_putN (D := g.2.1) (ci := 3) (C := RX3) (T := TX3) (N := 2) (v := .int v) (ty := .int) hx hb hts wB_3 tyX3 tyX3_ok nmX3 hown hK hP (fk_wD hinj _ _) hS i (wat_3 hi) rfl 1 (by decide) (va_Nw.use rfl (hE.1 _ wf_7_228)) (fun _ h => h) rfl (by decide +kernel) rfl rfl (Nat.le_of_ble_eq_true rfl) hdg (fun H1 locs1 hP1 hD1 hS1 => kk H1 locs1 ls hl ?_ hS1)
  rw [← wst_3_1 hi]
  exact hP1
theorem wf_6_9 : Cond.fieldLink RX6 9 "PieFunnels$Voice" "kind" "I" ∈ fkB := fkB_in (List.mem_of_getElem? (i := 258) (by decide +kernel)) rfl
theorem f_6_9 {g : fkG} {k : fkK} {ρ : Type} {en : ρ → Option Value} {cc : ByteArray} {nL fr lo pc : Nat} {ret : Option FieldType} {lv : List (Nat × Value)} {stk : List Value} {st : fkS} (hk : fk_ok wC g k RX6 cc nL ret fr lo) {i : Nat} {F1 : Int32 → Option (ρ × fkS)} (hi : kdC i = 6) (hdg : decode cc pc = .ok (.getfield 9, 3))
    (kk : ∀ x, fk_J wC g en k (pc + 3) lv (.int x :: stk) st (F1 x)) : fk_J wC g en k pc lv (fk_r g i :: stk) st (fk_let (gI st 120 i) F1) := by
  intro o ho hq
  have kk := kk (gI st 120 i) o ho hq
  obtain ⟨p, l, e, R, s, m, args, below, meth, c, rv, sf⟩ := k
  obtain ⟨hx, hb, hml, hown, hts, hK, hE, hr, hlk, hinj, hfr, hlo⟩ := hk
  intro H locs ls hl hP hS
  exact va_get (D := g.2.1) (ci := 6) (C := RX6) (T := TX6) (N := 6) (v := .int (gI st 120 i)) hx hb hts wB_6 hown hK hP i (wat_6 hi) rfl 0 (by decide) (hts _ wf_6_9) (fun _ h => h) rfl hdg (kk H locs ls hl hP hS)
theorem p_6_9 {g : fkG} {k : fkK} {ρ : Type} {en : ρ → Option Value} {cc : ByteArray} {nL fr lo pc : Nat} {ret : Option FieldType} {lv : List (Nat × Value)} {stk : List Value} {st : fkS} (hk : fk_ok wC g k RX6 cc nL ret fr lo) {i : Nat} {v : Int32} {F1 : fkS → Option (ρ × fkS)} (hi : kdC i = 6) (hdg : decode cc pc = .ok (.putfield 9, 3))
    (kk : ∀ st1, fk_J wC g en k (pc + 3) lv stk st1 (F1 st1)) : fk_J wC g en k pc lv (.int v :: fk_r g i :: stk) st (fk_let (sI st 120 i v) F1) := by
  intro o ho hq
  have kk := kk (sI st 120 i v) o ho hq
  obtain ⟨p, l, e, R, s, m, args, below, meth, c, rv, sf⟩ := k
  obtain ⟨hx, hb, hml, hown, hts, hK, hE, hr, hlk, hinj, hfr, hlo⟩ := hk
  intro H locs ls hl hP hS
  refine va_put (D := g.2.1) (ci := 6) (C := RX6) (T := TX6) (N := 6) (v := .int v) (ty := .int) hx hb hts wB_6 tyX6 tyX6_ok nmX6 hown hK hP (fk_wD hinj _ _) hS i (wat_6 hi) rfl 0 (by decide) (hts _ wf_6_9) (fun _ h => h) rfl (by decide +kernel) rfl rfl (Nat.le_of_ble_eq_true rfl) hdg (fun H1 locs1 hP1 hD1 hS1 => kk H1 locs1 ls hl ?_ hS1)
  rw [← wst_6_0 hi]
  exact hP1
theorem wf_7_334 : Cond.fieldLinkNest RX7 334 "PieFunnels$Voice" "kind" "I" "PieFunnels" ∈ fk_nests := List.mem_of_getElem? (i := 28) (by decide +kernel)
theorem f_7_334 {g : fkG} {k : fkK} {ρ : Type} {en : ρ → Option Value} {cc : ByteArray} {nL fr lo pc : Nat} {ret : Option FieldType} {lv : List (Nat × Value)} {stk : List Value} {st : fkS} (hk : fk_ok wC g k RX7 cc nL ret fr lo) {i : Nat} {F1 : Int32 → Option (ρ × fkS)} (hi : kdC i = 6) (hdg : decode cc pc = .ok (.getfield 334, 3))
    (kk : ∀ x, fk_J wC g en k (pc + 3) lv (.int x :: stk) st (F1 x)) : fk_J wC g en k pc lv (fk_r g i :: stk) st (fk_let (gI st 120 i) F1) := by
  intro o ho hq
  have kk := kk (gI st 120 i) o ho hq
  obtain ⟨p, l, e, R, s, m, args, below, meth, c, rv, sf⟩ := k
  obtain ⟨hx, hb, hml, hown, hts, hK, hE, hr, hlk, hinj, hfr, hlo⟩ := hk
  intro H locs ls hl hP hS
  exact va_getN (D := g.2.1) (ci := 6) (C := RX6) (T := TX6) (N := 6) (v := .int (gI st 120 i)) hx hb hts wB_6 hown hK hP i (wat_6 hi) rfl 0 (by decide) (va_Nw.use rfl (hE.1 _ wf_7_334)) (fun _ h => h) rfl hdg (kk H locs ls hl hP hS)
theorem p_7_334 {g : fkG} {k : fkK} {ρ : Type} {en : ρ → Option Value} {cc : ByteArray} {nL fr lo pc : Nat} {ret : Option FieldType} {lv : List (Nat × Value)} {stk : List Value} {st : fkS} (hk : fk_ok wC g k RX7 cc nL ret fr lo) {i : Nat} {v : Int32} {F1 : fkS → Option (ρ × fkS)} (hi : kdC i = 6) (hdg : decode cc pc = .ok (.putfield 334, 3))
    (kk : ∀ st1, fk_J wC g en k (pc + 3) lv stk st1 (F1 st1)) : fk_J wC g en k pc lv (.int v :: fk_r g i :: stk) st (fk_let (sI st 120 i v) F1) := by
  intro o ho hq
  have kk := kk (sI st 120 i v) o ho hq
  obtain ⟨p, l, e, R, s, m, args, below, meth, c, rv, sf⟩ := k
  obtain ⟨hx, hb, hml, hown, hts, hK, hE, hr, hlk, hinj, hfr, hlo⟩ := hk
  intro H locs ls hl hP hS
  refine va_putN (D := g.2.1) (ci := 6) (C := RX6) (T := TX6) (N := 6) (v := .int v) (ty := .int) hx hb hts wB_6 tyX6 tyX6_ok nmX6 hown hK hP (fk_wD hinj _ _) hS i (wat_6 hi) rfl 0 (by decide) (va_Nw.use rfl (hE.1 _ wf_7_334)) (fun _ h => h) rfl (by decide +kernel) rfl rfl (Nat.le_of_ble_eq_true rfl) hdg (fun H1 locs1 hP1 hD1 hS1 => kk H1 locs1 ls hl ?_ hS1)
  rw [← wst_6_0 hi]
  exact hP1
theorem wf_6_15 : Cond.fieldLink RX6 15 "PieFunnels$Voice" "a" "I" ∈ fkB := fkB_in (List.mem_of_getElem? (i := 260) (by decide +kernel)) rfl
theorem f_6_15 {g : fkG} {k : fkK} {ρ : Type} {en : ρ → Option Value} {cc : ByteArray} {nL fr lo pc : Nat} {ret : Option FieldType} {lv : List (Nat × Value)} {stk : List Value} {st : fkS} (hk : fk_ok wC g k RX6 cc nL ret fr lo) {i : Nat} {F1 : Int32 → Option (ρ × fkS)} (hi : kdC i = 6) (hdg : decode cc pc = .ok (.getfield 15, 3))
    (kk : ∀ x, fk_J wC g en k (pc + 3) lv (.int x :: stk) st (F1 x)) : fk_J wC g en k pc lv (fk_r g i :: stk) st (fk_let (gI st 121 i) F1) := by
  intro o ho hq
  have kk := kk (gI st 121 i) o ho hq
  obtain ⟨p, l, e, R, s, m, args, below, meth, c, rv, sf⟩ := k
  obtain ⟨hx, hb, hml, hown, hts, hK, hE, hr, hlk, hinj, hfr, hlo⟩ := hk
  intro H locs ls hl hP hS
  exact va_get (D := g.2.1) (ci := 6) (C := RX6) (T := TX6) (N := 6) (v := .int (gI st 121 i)) hx hb hts wB_6 hown hK hP i (wat_6 hi) rfl 1 (by decide) (hts _ wf_6_15) (fun _ h => h) rfl hdg (kk H locs ls hl hP hS)
theorem p_6_15 {g : fkG} {k : fkK} {ρ : Type} {en : ρ → Option Value} {cc : ByteArray} {nL fr lo pc : Nat} {ret : Option FieldType} {lv : List (Nat × Value)} {stk : List Value} {st : fkS} (hk : fk_ok wC g k RX6 cc nL ret fr lo) {i : Nat} {v : Int32} {F1 : fkS → Option (ρ × fkS)} (hi : kdC i = 6) (hdg : decode cc pc = .ok (.putfield 15, 3))
    (kk : ∀ st1, fk_J wC g en k (pc + 3) lv stk st1 (F1 st1)) : fk_J wC g en k pc lv (.int v :: fk_r g i :: stk) st (fk_let (sI st 121 i v) F1) := by
  intro o ho hq
  have kk := kk (sI st 121 i v) o ho hq
  obtain ⟨p, l, e, R, s, m, args, below, meth, c, rv, sf⟩ := k
  obtain ⟨hx, hb, hml, hown, hts, hK, hE, hr, hlk, hinj, hfr, hlo⟩ := hk
  intro H locs ls hl hP hS
  refine va_put (D := g.2.1) (ci := 6) (C := RX6) (T := TX6) (N := 6) (v := .int v) (ty := .int) hx hb hts wB_6 tyX6 tyX6_ok nmX6 hown hK hP (fk_wD hinj _ _) hS i (wat_6 hi) rfl 1 (by decide) (hts _ wf_6_15) (fun _ h => h) rfl (by decide +kernel) rfl rfl (Nat.le_of_ble_eq_true rfl) hdg (fun H1 locs1 hP1 hD1 hS1 => kk H1 locs1 ls hl ?_ hS1)
  rw [← wst_6_1 hi]
  exact hP1
theorem wf_7_168 : Cond.fieldLinkNest RX7 168 "PieFunnels$Voice" "a" "I" "PieFunnels" ∈ fk_nests := List.mem_of_getElem? (i := 29) (by decide +kernel)
theorem f_7_168 {g : fkG} {k : fkK} {ρ : Type} {en : ρ → Option Value} {cc : ByteArray} {nL fr lo pc : Nat} {ret : Option FieldType} {lv : List (Nat × Value)} {stk : List Value} {st : fkS} (hk : fk_ok wC g k RX7 cc nL ret fr lo) {i : Nat} {F1 : Int32 → Option (ρ × fkS)} (hi : kdC i = 6) (hdg : decode cc pc = .ok (.getfield 168, 3))
    (kk : ∀ x, fk_J wC g en k (pc + 3) lv (.int x :: stk) st (F1 x)) : fk_J wC g en k pc lv (fk_r g i :: stk) st (fk_let (gI st 121 i) F1) := by
  intro o ho hq
  have kk := kk (gI st 121 i) o ho hq
  obtain ⟨p, l, e, R, s, m, args, below, meth, c, rv, sf⟩ := k
  obtain ⟨hx, hb, hml, hown, hts, hK, hE, hr, hlk, hinj, hfr, hlo⟩ := hk
  intro H locs ls hl hP hS
  exact va_getN (D := g.2.1) (ci := 6) (C := RX6) (T := TX6) (N := 6) (v := .int (gI st 121 i)) hx hb hts wB_6 hown hK hP i (wat_6 hi) rfl 1 (by decide) (va_Nw.use rfl (hE.1 _ wf_7_168)) (fun _ h => h) rfl hdg (kk H locs ls hl hP hS)
theorem p_7_168 {g : fkG} {k : fkK} {ρ : Type} {en : ρ → Option Value} {cc : ByteArray} {nL fr lo pc : Nat} {ret : Option FieldType} {lv : List (Nat × Value)} {stk : List Value} {st : fkS} (hk : fk_ok wC g k RX7 cc nL ret fr lo) {i : Nat} {v : Int32} {F1 : fkS → Option (ρ × fkS)} (hi : kdC i = 6) (hdg : decode cc pc = .ok (.putfield 168, 3))
    (kk : ∀ st1, fk_J wC g en k (pc + 3) lv stk st1 (F1 st1)) : fk_J wC g en k pc lv (.int v :: fk_r g i :: stk) st (fk_let (sI st 121 i v) F1) := by
  intro o ho hq
  have kk := kk (sI st 121 i v) o ho hq
  obtain ⟨p, l, e, R, s, m, args, below, meth, c, rv, sf⟩ := k
  obtain ⟨hx, hb, hml, hown, hts, hK, hE, hr, hlk, hinj, hfr, hlo⟩ := hk
  intro H locs ls hl hP hS
  refine va_putN (D := g.2.1) (ci := 6) (C := RX6) (T := TX6) (N := 6) (v := .int v) (ty := .int) hx hb hts wB_6 tyX6 tyX6_ok nmX6 hown hK hP (fk_wD hinj _ _) hS i (wat_6 hi) rfl 1 (by decide) (va_Nw.use rfl (hE.1 _ wf_7_168)) (fun _ h => h) rfl (by decide +kernel) rfl rfl (Nat.le_of_ble_eq_true rfl) hdg (fun H1 locs1 hP1 hD1 hS1 => kk H1 locs1 ls hl ?_ hS1)
  rw [← wst_6_1 hi]
  exact hP1
theorem wf_6_18 : Cond.fieldLink RX6 18 "PieFunnels$Voice" "mouth" "I" ∈ fkB := fkB_in (List.mem_of_getElem? (i := 262) (by decide +kernel)) rfl
theorem f_6_18 {g : fkG} {k : fkK} {ρ : Type} {en : ρ → Option Value} {cc : ByteArray} {nL fr lo pc : Nat} {ret : Option FieldType} {lv : List (Nat × Value)} {stk : List Value} {st : fkS} (hk : fk_ok wC g k RX6 cc nL ret fr lo) {i : Nat} {F1 : Int32 → Option (ρ × fkS)} (hi : kdC i = 6) (hdg : decode cc pc = .ok (.getfield 18, 3))
    (kk : ∀ x, fk_J wC g en k (pc + 3) lv (.int x :: stk) st (F1 x)) : fk_J wC g en k pc lv (fk_r g i :: stk) st (fk_let (gI st 122 i) F1) := by
  intro o ho hq
  have kk := kk (gI st 122 i) o ho hq
  obtain ⟨p, l, e, R, s, m, args, below, meth, c, rv, sf⟩ := k
  obtain ⟨hx, hb, hml, hown, hts, hK, hE, hr, hlk, hinj, hfr, hlo⟩ := hk
  intro H locs ls hl hP hS
  exact va_get (D := g.2.1) (ci := 6) (C := RX6) (T := TX6) (N := 6) (v := .int (gI st 122 i)) hx hb hts wB_6 hown hK hP i (wat_6 hi) rfl 2 (by decide) (hts _ wf_6_18) (fun _ h => h) rfl hdg (kk H locs ls hl hP hS)
theorem p_6_18 {g : fkG} {k : fkK} {ρ : Type} {en : ρ → Option Value} {cc : ByteArray} {nL fr lo pc : Nat} {ret : Option FieldType} {lv : List (Nat × Value)} {stk : List Value} {st : fkS} (hk : fk_ok wC g k RX6 cc nL ret fr lo) {i : Nat} {v : Int32} {F1 : fkS → Option (ρ × fkS)} (hi : kdC i = 6) (hdg : decode cc pc = .ok (.putfield 18, 3))
    (kk : ∀ st1, fk_J wC g en k (pc + 3) lv stk st1 (F1 st1)) : fk_J wC g en k pc lv (.int v :: fk_r g i :: stk) st (fk_let (sI st 122 i v) F1) := by
  intro o ho hq
  have kk := kk (sI st 122 i v) o ho hq
  obtain ⟨p, l, e, R, s, m, args, below, meth, c, rv, sf⟩ := k
  obtain ⟨hx, hb, hml, hown, hts, hK, hE, hr, hlk, hinj, hfr, hlo⟩ := hk
  intro H locs ls hl hP hS
  refine va_put (D := g.2.1) (ci := 6) (C := RX6) (T := TX6) (N := 6) (v := .int v) (ty := .int) hx hb hts wB_6 tyX6 tyX6_ok nmX6 hown hK hP (fk_wD hinj _ _) hS i (wat_6 hi) rfl 2 (by decide) (hts _ wf_6_18) (fun _ h => h) rfl (by decide +kernel) rfl rfl (Nat.le_of_ble_eq_true rfl) hdg (fun H1 locs1 hP1 hD1 hS1 => kk H1 locs1 ls hl ?_ hS1)
  rw [← wst_6_2 hi]
  exact hP1
theorem wf_7_152 : Cond.fieldLinkNest RX7 152 "PieFunnels$Voice" "mouth" "I" "PieFunnels" ∈ fk_nests := List.mem_of_getElem? (i := 30) (by decide +kernel)
theorem f_7_152 {g : fkG} {k : fkK} {ρ : Type} {en : ρ → Option Value} {cc : ByteArray} {nL fr lo pc : Nat} {ret : Option FieldType} {lv : List (Nat × Value)} {stk : List Value} {st : fkS} (hk : fk_ok wC g k RX7 cc nL ret fr lo) {i : Nat} {F1 : Int32 → Option (ρ × fkS)} (hi : kdC i = 6) (hdg : decode cc pc = .ok (.getfield 152, 3))
    (kk : ∀ x, fk_J wC g en k (pc + 3) lv (.int x :: stk) st (F1 x)) : fk_J wC g en k pc lv (fk_r g i :: stk) st (fk_let (gI st 122 i) F1) := by
  intro o ho hq
  have kk := kk (gI st 122 i) o ho hq
  obtain ⟨p, l, e, R, s, m, args, below, meth, c, rv, sf⟩ := k
  obtain ⟨hx, hb, hml, hown, hts, hK, hE, hr, hlk, hinj, hfr, hlo⟩ := hk
  intro H locs ls hl hP hS
  exact va_getN (D := g.2.1) (ci := 6) (C := RX6) (T := TX6) (N := 6) (v := .int (gI st 122 i)) hx hb hts wB_6 hown hK hP i (wat_6 hi) rfl 2 (by decide) (va_Nw.use rfl (hE.1 _ wf_7_152)) (fun _ h => h) rfl hdg (kk H locs ls hl hP hS)
theorem p_7_152 {g : fkG} {k : fkK} {ρ : Type} {en : ρ → Option Value} {cc : ByteArray} {nL fr lo pc : Nat} {ret : Option FieldType} {lv : List (Nat × Value)} {stk : List Value} {st : fkS} (hk : fk_ok wC g k RX7 cc nL ret fr lo) {i : Nat} {v : Int32} {F1 : fkS → Option (ρ × fkS)} (hi : kdC i = 6) (hdg : decode cc pc = .ok (.putfield 152, 3))
    (kk : ∀ st1, fk_J wC g en k (pc + 3) lv stk st1 (F1 st1)) : fk_J wC g en k pc lv (.int v :: fk_r g i :: stk) st (fk_let (sI st 122 i v) F1) := by
  intro o ho hq
  have kk := kk (sI st 122 i v) o ho hq
  obtain ⟨p, l, e, R, s, m, args, below, meth, c, rv, sf⟩ := k
  obtain ⟨hx, hb, hml, hown, hts, hK, hE, hr, hlk, hinj, hfr, hlo⟩ := hk
  intro H locs ls hl hP hS
  refine va_putN (D := g.2.1) (ci := 6) (C := RX6) (T := TX6) (N := 6) (v := .int v) (ty := .int) hx hb hts wB_6 tyX6 tyX6_ok nmX6 hown hK hP (fk_wD hinj _ _) hS i (wat_6 hi) rfl 2 (by decide) (va_Nw.use rfl (hE.1 _ wf_7_152)) (fun _ h => h) rfl (by decide +kernel) rfl rfl (Nat.le_of_ble_eq_true rfl) hdg (fun H1 locs1 hP1 hD1 hS1 => kk H1 locs1 ls hl ?_ hS1)
  rw [← wst_6_2 hi]
  exact hP1
theorem wf_6_21 : Cond.fieldLink RX6 21 "PieFunnels$Voice" "heat" "I" ∈ fkB := fkB_in (List.mem_of_getElem? (i := 264) (by decide +kernel)) rfl
theorem f_6_21 {g : fkG} {k : fkK} {ρ : Type} {en : ρ → Option Value} {cc : ByteArray} {nL fr lo pc : Nat} {ret : Option FieldType} {lv : List (Nat × Value)} {stk : List Value} {st : fkS} (hk : fk_ok wC g k RX6 cc nL ret fr lo) {i : Nat} {F1 : Int32 → Option (ρ × fkS)} (hi : kdC i = 6) (hdg : decode cc pc = .ok (.getfield 21, 3))
    (kk : ∀ x, fk_J wC g en k (pc + 3) lv (.int x :: stk) st (F1 x)) : fk_J wC g en k pc lv (fk_r g i :: stk) st (fk_let (gI st 123 i) F1) := by
  intro o ho hq
  have kk := kk (gI st 123 i) o ho hq
  obtain ⟨p, l, e, R, s, m, args, below, meth, c, rv, sf⟩ := k
  obtain ⟨hx, hb, hml, hown, hts, hK, hE, hr, hlk, hinj, hfr, hlo⟩ := hk
  intro H locs ls hl hP hS
  exact va_get (D := g.2.1) (ci := 6) (C := RX6) (T := TX6) (N := 6) (v := .int (gI st 123 i)) hx hb hts wB_6 hown hK hP i (wat_6 hi) rfl 3 (by decide) (hts _ wf_6_21) (fun _ h => h) rfl hdg (kk H locs ls hl hP hS)
theorem p_6_21 {g : fkG} {k : fkK} {ρ : Type} {en : ρ → Option Value} {cc : ByteArray} {nL fr lo pc : Nat} {ret : Option FieldType} {lv : List (Nat × Value)} {stk : List Value} {st : fkS} (hk : fk_ok wC g k RX6 cc nL ret fr lo) {i : Nat} {v : Int32} {F1 : fkS → Option (ρ × fkS)} (hi : kdC i = 6) (hdg : decode cc pc = .ok (.putfield 21, 3))
    (kk : ∀ st1, fk_J wC g en k (pc + 3) lv stk st1 (F1 st1)) : fk_J wC g en k pc lv (.int v :: fk_r g i :: stk) st (fk_let (sI st 123 i v) F1) := by
  intro o ho hq
  have kk := kk (sI st 123 i v) o ho hq
  obtain ⟨p, l, e, R, s, m, args, below, meth, c, rv, sf⟩ := k
  obtain ⟨hx, hb, hml, hown, hts, hK, hE, hr, hlk, hinj, hfr, hlo⟩ := hk
  intro H locs ls hl hP hS
  refine va_put (D := g.2.1) (ci := 6) (C := RX6) (T := TX6) (N := 6) (v := .int v) (ty := .int) hx hb hts wB_6 tyX6 tyX6_ok nmX6 hown hK hP (fk_wD hinj _ _) hS i (wat_6 hi) rfl 3 (by decide) (hts _ wf_6_21) (fun _ h => h) rfl (by decide +kernel) rfl rfl (Nat.le_of_ble_eq_true rfl) hdg (fun H1 locs1 hP1 hD1 hS1 => kk H1 locs1 ls hl ?_ hS1)
  rw [← wst_6_3 hi]
  exact hP1
theorem wf_7_270 : Cond.fieldLinkNest RX7 270 "PieFunnels$Voice" "heat" "I" "PieFunnels" ∈ fk_nests := List.mem_of_getElem? (i := 31) (by decide +kernel)
theorem f_7_270 {g : fkG} {k : fkK} {ρ : Type} {en : ρ → Option Value} {cc : ByteArray} {nL fr lo pc : Nat} {ret : Option FieldType} {lv : List (Nat × Value)} {stk : List Value} {st : fkS} (hk : fk_ok wC g k RX7 cc nL ret fr lo) {i : Nat} {F1 : Int32 → Option (ρ × fkS)} (hi : kdC i = 6) (hdg : decode cc pc = .ok (.getfield 270, 3))
    (kk : ∀ x, fk_J wC g en k (pc + 3) lv (.int x :: stk) st (F1 x)) : fk_J wC g en k pc lv (fk_r g i :: stk) st (fk_let (gI st 123 i) F1) := by
  intro o ho hq
  have kk := kk (gI st 123 i) o ho hq
  obtain ⟨p, l, e, R, s, m, args, below, meth, c, rv, sf⟩ := k
  obtain ⟨hx, hb, hml, hown, hts, hK, hE, hr, hlk, hinj, hfr, hlo⟩ := hk
  intro H locs ls hl hP hS
  exact va_getN (D := g.2.1) (ci := 6) (C := RX6) (T := TX6) (N := 6) (v := .int (gI st 123 i)) hx hb hts wB_6 hown hK hP i (wat_6 hi) rfl 3 (by decide) (va_Nw.use rfl (hE.1 _ wf_7_270)) (fun _ h => h) rfl hdg (kk H locs ls hl hP hS)
theorem p_7_270 {g : fkG} {k : fkK} {ρ : Type} {en : ρ → Option Value} {cc : ByteArray} {nL fr lo pc : Nat} {ret : Option FieldType} {lv : List (Nat × Value)} {stk : List Value} {st : fkS} (hk : fk_ok wC g k RX7 cc nL ret fr lo) {i : Nat} {v : Int32} {F1 : fkS → Option (ρ × fkS)} (hi : kdC i = 6) (hdg : decode cc pc = .ok (.putfield 270, 3))
    (kk : ∀ st1, fk_J wC g en k (pc + 3) lv stk st1 (F1 st1)) : fk_J wC g en k pc lv (.int v :: fk_r g i :: stk) st (fk_let (sI st 123 i v) F1) := by
  intro o ho hq
  have kk := kk (sI st 123 i v) o ho hq
  obtain ⟨p, l, e, R, s, m, args, below, meth, c, rv, sf⟩ := k
  obtain ⟨hx, hb, hml, hown, hts, hK, hE, hr, hlk, hinj, hfr, hlo⟩ := hk
  intro H locs ls hl hP hS
  refine va_putN (D := g.2.1) (ci := 6) (C := RX6) (T := TX6) (N := 6) (v := .int v) (ty := .int) hx hb hts wB_6 tyX6 tyX6_ok nmX6 hown hK hP (fk_wD hinj _ _) hS i (wat_6 hi) rfl 3 (by decide) (va_Nw.use rfl (hE.1 _ wf_7_270)) (fun _ h => h) rfl (by decide +kernel) rfl rfl (Nat.le_of_ble_eq_true rfl) hdg (fun H1 locs1 hP1 hD1 hS1 => kk H1 locs1 ls hl ?_ hS1)
  rw [← wst_6_3 hi]
  exact hP1
theorem wf_6_24 : Cond.fieldLink RX6 24 "PieFunnels$Voice" "count" "I" ∈ fkB := fkB_in (List.mem_of_getElem? (i := 266) (by decide +kernel)) rfl
theorem f_6_24 {g : fkG} {k : fkK} {ρ : Type} {en : ρ → Option Value} {cc : ByteArray} {nL fr lo pc : Nat} {ret : Option FieldType} {lv : List (Nat × Value)} {stk : List Value} {st : fkS} (hk : fk_ok wC g k RX6 cc nL ret fr lo) {i : Nat} {F1 : Int32 → Option (ρ × fkS)} (hi : kdC i = 6) (hdg : decode cc pc = .ok (.getfield 24, 3))
    (kk : ∀ x, fk_J wC g en k (pc + 3) lv (.int x :: stk) st (F1 x)) : fk_J wC g en k pc lv (fk_r g i :: stk) st (fk_let (gI st 124 i) F1) := by
  intro o ho hq
  have kk := kk (gI st 124 i) o ho hq
  obtain ⟨p, l, e, R, s, m, args, below, meth, c, rv, sf⟩ := k
  obtain ⟨hx, hb, hml, hown, hts, hK, hE, hr, hlk, hinj, hfr, hlo⟩ := hk
  intro H locs ls hl hP hS
  exact va_get (D := g.2.1) (ci := 6) (C := RX6) (T := TX6) (N := 6) (v := .int (gI st 124 i)) hx hb hts wB_6 hown hK hP i (wat_6 hi) rfl 4 (by decide) (hts _ wf_6_24) (fun _ h => h) rfl hdg (kk H locs ls hl hP hS)
theorem p_6_24 {g : fkG} {k : fkK} {ρ : Type} {en : ρ → Option Value} {cc : ByteArray} {nL fr lo pc : Nat} {ret : Option FieldType} {lv : List (Nat × Value)} {stk : List Value} {st : fkS} (hk : fk_ok wC g k RX6 cc nL ret fr lo) {i : Nat} {v : Int32} {F1 : fkS → Option (ρ × fkS)} (hi : kdC i = 6) (hdg : decode cc pc = .ok (.putfield 24, 3))
    (kk : ∀ st1, fk_J wC g en k (pc + 3) lv stk st1 (F1 st1)) : fk_J wC g en k pc lv (.int v :: fk_r g i :: stk) st (fk_let (sI st 124 i v) F1) := by
  intro o ho hq
  have kk := kk (sI st 124 i v) o ho hq
  obtain ⟨p, l, e, R, s, m, args, below, meth, c, rv, sf⟩ := k
  obtain ⟨hx, hb, hml, hown, hts, hK, hE, hr, hlk, hinj, hfr, hlo⟩ := hk
  intro H locs ls hl hP hS
  refine va_put (D := g.2.1) (ci := 6) (C := RX6) (T := TX6) (N := 6) (v := .int v) (ty := .int) hx hb hts wB_6 tyX6 tyX6_ok nmX6 hown hK hP (fk_wD hinj _ _) hS i (wat_6 hi) rfl 4 (by decide) (hts _ wf_6_24) (fun _ h => h) rfl (by decide +kernel) rfl rfl (Nat.le_of_ble_eq_true rfl) hdg (fun H1 locs1 hP1 hD1 hS1 => kk H1 locs1 ls hl ?_ hS1)
  rw [← wst_6_4 hi]
  exact hP1
theorem wf_0_56 : Cond.fieldLinkNest RX0 56 "PieFunnels$Voice" "count" "I" "PieFunnels" ∈ fk_nests := List.mem_of_getElem? (i := 32) (by decide +kernel)
theorem f_0_56 {g : fkG} {k : fkK} {ρ : Type} {en : ρ → Option Value} {cc : ByteArray} {nL fr lo pc : Nat} {ret : Option FieldType} {lv : List (Nat × Value)} {stk : List Value} {st : fkS} (hk : fk_ok wC g k RX0 cc nL ret fr lo) {i : Nat} {F1 : Int32 → Option (ρ × fkS)} (hi : kdC i = 6) (hdg : decode cc pc = .ok (.getfield 56, 3))
    (kk : ∀ x, fk_J wC g en k (pc + 3) lv (.int x :: stk) st (F1 x)) : fk_J wC g en k pc lv (fk_r g i :: stk) st (fk_let (gI st 124 i) F1) := by
  intro o ho hq
  have kk := kk (gI st 124 i) o ho hq
  obtain ⟨p, l, e, R, s, m, args, below, meth, c, rv, sf⟩ := k
  obtain ⟨hx, hb, hml, hown, hts, hK, hE, hr, hlk, hinj, hfr, hlo⟩ := hk
  intro H locs ls hl hP hS
  exact va_getN (D := g.2.1) (ci := 6) (C := RX6) (T := TX6) (N := 6) (v := .int (gI st 124 i)) hx hb hts wB_6 hown hK hP i (wat_6 hi) rfl 4 (by decide) (va_Nw.use rfl (hE.1 _ wf_0_56)) (fun _ h => h) rfl hdg (kk H locs ls hl hP hS)
theorem p_0_56 {g : fkG} {k : fkK} {ρ : Type} {en : ρ → Option Value} {cc : ByteArray} {nL fr lo pc : Nat} {ret : Option FieldType} {lv : List (Nat × Value)} {stk : List Value} {st : fkS} (hk : fk_ok wC g k RX0 cc nL ret fr lo) {i : Nat} {v : Int32} {F1 : fkS → Option (ρ × fkS)} (hi : kdC i = 6) (hdg : decode cc pc = .ok (.putfield 56, 3))
    (kk : ∀ st1, fk_J wC g en k (pc + 3) lv stk st1 (F1 st1)) : fk_J wC g en k pc lv (.int v :: fk_r g i :: stk) st (fk_let (sI st 124 i v) F1) := by
  intro o ho hq
  have kk := kk (sI st 124 i v) o ho hq
  obtain ⟨p, l, e, R, s, m, args, below, meth, c, rv, sf⟩ := k
  obtain ⟨hx, hb, hml, hown, hts, hK, hE, hr, hlk, hinj, hfr, hlo⟩ := hk
  intro H locs ls hl hP hS
  refine va_putN (D := g.2.1) (ci := 6) (C := RX6) (T := TX6) (N := 6) (v := .int v) (ty := .int) hx hb hts wB_6 tyX6 tyX6_ok nmX6 hown hK hP (fk_wD hinj _ _) hS i (wat_6 hi) rfl 4 (by decide) (va_Nw.use rfl (hE.1 _ wf_0_56)) (fun _ h => h) rfl (by decide +kernel) rfl rfl (Nat.le_of_ble_eq_true rfl) hdg (fun H1 locs1 hP1 hD1 hS1 => kk H1 locs1 ls hl ?_ hS1)
  rw [← wst_6_4 hi]
  exact hP1
theorem wf_7_162 : Cond.fieldLinkNest RX7 162 "PieFunnels$Voice" "count" "I" "PieFunnels" ∈ fk_nests := List.mem_of_getElem? (i := 33) (by decide +kernel)
theorem f_7_162 {g : fkG} {k : fkK} {ρ : Type} {en : ρ → Option Value} {cc : ByteArray} {nL fr lo pc : Nat} {ret : Option FieldType} {lv : List (Nat × Value)} {stk : List Value} {st : fkS} (hk : fk_ok wC g k RX7 cc nL ret fr lo) {i : Nat} {F1 : Int32 → Option (ρ × fkS)} (hi : kdC i = 6) (hdg : decode cc pc = .ok (.getfield 162, 3))
    (kk : ∀ x, fk_J wC g en k (pc + 3) lv (.int x :: stk) st (F1 x)) : fk_J wC g en k pc lv (fk_r g i :: stk) st (fk_let (gI st 124 i) F1) := by
  intro o ho hq
  have kk := kk (gI st 124 i) o ho hq
  obtain ⟨p, l, e, R, s, m, args, below, meth, c, rv, sf⟩ := k
  obtain ⟨hx, hb, hml, hown, hts, hK, hE, hr, hlk, hinj, hfr, hlo⟩ := hk
  intro H locs ls hl hP hS
  exact va_getN (D := g.2.1) (ci := 6) (C := RX6) (T := TX6) (N := 6) (v := .int (gI st 124 i)) hx hb hts wB_6 hown hK hP i (wat_6 hi) rfl 4 (by decide) (va_Nw.use rfl (hE.1 _ wf_7_162)) (fun _ h => h) rfl hdg (kk H locs ls hl hP hS)
theorem p_7_162 {g : fkG} {k : fkK} {ρ : Type} {en : ρ → Option Value} {cc : ByteArray} {nL fr lo pc : Nat} {ret : Option FieldType} {lv : List (Nat × Value)} {stk : List Value} {st : fkS} (hk : fk_ok wC g k RX7 cc nL ret fr lo) {i : Nat} {v : Int32} {F1 : fkS → Option (ρ × fkS)} (hi : kdC i = 6) (hdg : decode cc pc = .ok (.putfield 162, 3))
    (kk : ∀ st1, fk_J wC g en k (pc + 3) lv stk st1 (F1 st1)) : fk_J wC g en k pc lv (.int v :: fk_r g i :: stk) st (fk_let (sI st 124 i v) F1) := by
  intro o ho hq
  have kk := kk (sI st 124 i v) o ho hq
  obtain ⟨p, l, e, R, s, m, args, below, meth, c, rv, sf⟩ := k
  obtain ⟨hx, hb, hml, hown, hts, hK, hE, hr, hlk, hinj, hfr, hlo⟩ := hk
  intro H locs ls hl hP hS
  refine va_putN (D := g.2.1) (ci := 6) (C := RX6) (T := TX6) (N := 6) (v := .int v) (ty := .int) hx hb hts wB_6 tyX6 tyX6_ok nmX6 hown hK hP (fk_wD hinj _ _) hS i (wat_6 hi) rfl 4 (by decide) (va_Nw.use rfl (hE.1 _ wf_7_162)) (fun _ h => h) rfl (by decide +kernel) rfl rfl (Nat.le_of_ble_eq_true rfl) hdg (fun H1 locs1 hP1 hD1 hS1 => kk H1 locs1 ls hl ?_ hS1)
  rw [← wst_6_4 hi]
  exact hP1
theorem wf_6_27 : Cond.fieldLink RX6 27 "PieFunnels$Voice" "signs" "[I" ∈ fkB := fkB_in (List.mem_of_getElem? (i := 269) (by decide +kernel)) rfl
theorem f_6_27 {g : fkG} {k : fkK} {ρ : Type} {en : ρ → Option Value} {cc : ByteArray} {nL fr lo pc : Nat} {ret : Option FieldType} {lv : List (Nat × Value)} {stk : List Value} {st : fkS} {F : Option (ρ × fkS)} (hk : fk_ok wC g k RX6 cc nL ret fr lo) {i : Nat} (hi : kdC i = 6) (hdg : decode cc pc = .ok (.getfield 27, 3))
    (kk : fk_J wC g en k (pc + 3) lv (fk_r g (i + 2) :: stk) st F) : fk_J wC g en k pc lv (fk_r g i :: stk) st F := by
  intro o ho hq
  have kk := kk o ho hq
  obtain ⟨p, l, e, R, s, m, args, below, meth, c, rv, sf⟩ := k
  obtain ⟨hx, hb, hml, hown, hts, hK, hE, hr, hlk, hinj, hfr, hlo⟩ := hk
  intro H locs ls hl hP hS
  exact va_get (D := g.2.1) (ci := 6) (C := RX6) (T := TX6) (N := 6) (v := fk_r g (i + 2)) hx hb hts wB_6 hown hK hP i (wat_6 hi) rfl 5 (by decide) (hts _ wf_6_27) (fun _ h => h) rfl hdg (kk H locs ls hl hP hS)
theorem wf_0_61 : Cond.fieldLinkNest RX0 61 "PieFunnels$Voice" "signs" "[I" "PieFunnels" ∈ fk_nests := List.mem_of_getElem? (i := 34) (by decide +kernel)
theorem f_0_61 {g : fkG} {k : fkK} {ρ : Type} {en : ρ → Option Value} {cc : ByteArray} {nL fr lo pc : Nat} {ret : Option FieldType} {lv : List (Nat × Value)} {stk : List Value} {st : fkS} {F : Option (ρ × fkS)} (hk : fk_ok wC g k RX0 cc nL ret fr lo) {i : Nat} (hi : kdC i = 6) (hdg : decode cc pc = .ok (.getfield 61, 3))
    (kk : fk_J wC g en k (pc + 3) lv (fk_r g (i + 2) :: stk) st F) : fk_J wC g en k pc lv (fk_r g i :: stk) st F := by
  intro o ho hq
  have kk := kk o ho hq
  obtain ⟨p, l, e, R, s, m, args, below, meth, c, rv, sf⟩ := k
  obtain ⟨hx, hb, hml, hown, hts, hK, hE, hr, hlk, hinj, hfr, hlo⟩ := hk
  intro H locs ls hl hP hS
  exact va_getN (D := g.2.1) (ci := 6) (C := RX6) (T := TX6) (N := 6) (v := fk_r g (i + 2)) hx hb hts wB_6 hown hK hP i (wat_6 hi) rfl 5 (by decide) (va_Nw.use rfl (hE.1 _ wf_0_61)) (fun _ h => h) rfl hdg (kk H locs ls hl hP hS)
theorem wf_7_165 : Cond.fieldLinkNest RX7 165 "PieFunnels$Voice" "signs" "[I" "PieFunnels" ∈ fk_nests := List.mem_of_getElem? (i := 35) (by decide +kernel)
theorem f_7_165 {g : fkG} {k : fkK} {ρ : Type} {en : ρ → Option Value} {cc : ByteArray} {nL fr lo pc : Nat} {ret : Option FieldType} {lv : List (Nat × Value)} {stk : List Value} {st : fkS} {F : Option (ρ × fkS)} (hk : fk_ok wC g k RX7 cc nL ret fr lo) {i : Nat} (hi : kdC i = 6) (hdg : decode cc pc = .ok (.getfield 165, 3))
    (kk : fk_J wC g en k (pc + 3) lv (fk_r g (i + 2) :: stk) st F) : fk_J wC g en k pc lv (fk_r g i :: stk) st F := by
  intro o ho hq
  have kk := kk o ho hq
  obtain ⟨p, l, e, R, s, m, args, below, meth, c, rv, sf⟩ := k
  obtain ⟨hx, hb, hml, hown, hts, hK, hE, hr, hlk, hinj, hfr, hlo⟩ := hk
  intro H locs ls hl hP hS
  exact va_getN (D := g.2.1) (ci := 6) (C := RX6) (T := TX6) (N := 6) (v := fk_r g (i + 2)) hx hb hts wB_6 hown hK hP i (wat_6 hi) rfl 5 (by decide) (va_Nw.use rfl (hE.1 _ wf_7_165)) (fun _ h => h) rfl hdg (kk H locs ls hl hP hS)
theorem wf_2_9 : Cond.fieldLink RX2 9 "PieFunnels$Parting" "tribes" "I" ∈ fkB := fkB_in (List.mem_of_getElem? (i := 291) (by decide +kernel)) rfl
theorem f_2_9 {g : fkG} {k : fkK} {ρ : Type} {en : ρ → Option Value} {cc : ByteArray} {nL fr lo pc : Nat} {ret : Option FieldType} {lv : List (Nat × Value)} {stk : List Value} {st : fkS} (hk : fk_ok wC g k RX2 cc nL ret fr lo) {i : Nat} {F1 : Int32 → Option (ρ × fkS)} (hi : kdC i = 2) (hdg : decode cc pc = .ok (.getfield 9, 3))
    (kk : ∀ x, fk_J wC g en k (pc + 3) lv (.int x :: stk) st (F1 x)) : fk_J wC g en k pc lv (fk_r g i :: stk) st (fk_let (gI st 40 i) F1) := by
  intro o ho hq
  have kk := kk (gI st 40 i) o ho hq
  obtain ⟨p, l, e, R, s, m, args, below, meth, c, rv, sf⟩ := k
  obtain ⟨hx, hb, hml, hown, hts, hK, hE, hr, hlk, hinj, hfr, hlo⟩ := hk
  intro H locs ls hl hP hS
  exact va_get (D := g.2.1) (ci := 2) (C := RX2) (T := TX2) (N := 5) (v := .int (gI st 40 i)) hx hb hts wB_2 hown hK hP i (wat_2 hi) rfl 0 (by decide) (hts _ wf_2_9) (fun _ h => h) rfl hdg (kk H locs ls hl hP hS)
theorem p_2_9 {g : fkG} {k : fkK} {ρ : Type} {en : ρ → Option Value} {cc : ByteArray} {nL fr lo pc : Nat} {ret : Option FieldType} {lv : List (Nat × Value)} {stk : List Value} {st : fkS} (hk : fk_ok wC g k RX2 cc nL ret fr lo) {i : Nat} {v : Int32} {F1 : fkS → Option (ρ × fkS)} (hi : kdC i = 2) (hdg : decode cc pc = .ok (.putfield 9, 3))
    (kk : ∀ st1, fk_J wC g en k (pc + 3) lv stk st1 (F1 st1)) : fk_J wC g en k pc lv (.int v :: fk_r g i :: stk) st (fk_let (sI st 40 i v) F1) := by
  intro o ho hq
  have kk := kk (sI st 40 i v) o ho hq
  obtain ⟨p, l, e, R, s, m, args, below, meth, c, rv, sf⟩ := k
  obtain ⟨hx, hb, hml, hown, hts, hK, hE, hr, hlk, hinj, hfr, hlo⟩ := hk
  intro H locs ls hl hP hS
  refine va_put (D := g.2.1) (ci := 2) (C := RX2) (T := TX2) (N := 5) (v := .int v) (ty := .int) hx hb hts wB_2 tyX2 tyX2_ok nmX2 hown hK hP (fk_wD hinj _ _) hS i (wat_2 hi) rfl 0 (by decide) (hts _ wf_2_9) (fun _ h => h) rfl (by decide +kernel) rfl rfl (Nat.le_of_ble_eq_true rfl) hdg (fun H1 locs1 hP1 hD1 hS1 => kk H1 locs1 ls hl ?_ hS1)
  rw [← wst_2_0 hi]
  exact hP1
theorem wf_7_277 : Cond.fieldLinkNest RX7 277 "PieFunnels$Parting" "tribes" "I" "PieFunnels" ∈ fk_nests := List.mem_of_getElem? (i := 36) (by decide +kernel)
theorem f_7_277 {g : fkG} {k : fkK} {ρ : Type} {en : ρ → Option Value} {cc : ByteArray} {nL fr lo pc : Nat} {ret : Option FieldType} {lv : List (Nat × Value)} {stk : List Value} {st : fkS} (hk : fk_ok wC g k RX7 cc nL ret fr lo) {i : Nat} {F1 : Int32 → Option (ρ × fkS)} (hi : kdC i = 2) (hdg : decode cc pc = .ok (.getfield 277, 3))
    (kk : ∀ x, fk_J wC g en k (pc + 3) lv (.int x :: stk) st (F1 x)) : fk_J wC g en k pc lv (fk_r g i :: stk) st (fk_let (gI st 40 i) F1) := by
  intro o ho hq
  have kk := kk (gI st 40 i) o ho hq
  obtain ⟨p, l, e, R, s, m, args, below, meth, c, rv, sf⟩ := k
  obtain ⟨hx, hb, hml, hown, hts, hK, hE, hr, hlk, hinj, hfr, hlo⟩ := hk
  intro H locs ls hl hP hS
  exact va_getN (D := g.2.1) (ci := 2) (C := RX2) (T := TX2) (N := 5) (v := .int (gI st 40 i)) hx hb hts wB_2 hown hK hP i (wat_2 hi) rfl 0 (by decide) (va_Nw.use rfl (hE.1 _ wf_7_277)) (fun _ h => h) rfl hdg (kk H locs ls hl hP hS)
theorem p_7_277 {g : fkG} {k : fkK} {ρ : Type} {en : ρ → Option Value} {cc : ByteArray} {nL fr lo pc : Nat} {ret : Option FieldType} {lv : List (Nat × Value)} {stk : List Value} {st : fkS} (hk : fk_ok wC g k RX7 cc nL ret fr lo) {i : Nat} {v : Int32} {F1 : fkS → Option (ρ × fkS)} (hi : kdC i = 2) (hdg : decode cc pc = .ok (.putfield 277, 3))
    (kk : ∀ st1, fk_J wC g en k (pc + 3) lv stk st1 (F1 st1)) : fk_J wC g en k pc lv (.int v :: fk_r g i :: stk) st (fk_let (sI st 40 i v) F1) := by
  intro o ho hq
  have kk := kk (sI st 40 i v) o ho hq
  obtain ⟨p, l, e, R, s, m, args, below, meth, c, rv, sf⟩ := k
  obtain ⟨hx, hb, hml, hown, hts, hK, hE, hr, hlk, hinj, hfr, hlo⟩ := hk
  intro H locs ls hl hP hS
  refine va_putN (D := g.2.1) (ci := 2) (C := RX2) (T := TX2) (N := 5) (v := .int v) (ty := .int) hx hb hts wB_2 tyX2 tyX2_ok nmX2 hown hK hP (fk_wD hinj _ _) hS i (wat_2 hi) rfl 0 (by decide) (va_Nw.use rfl (hE.1 _ wf_7_277)) (fun _ h => h) rfl (by decide +kernel) rfl rfl (Nat.le_of_ble_eq_true rfl) hdg (fun H1 locs1 hP1 hD1 hS1 => kk H1 locs1 ls hl ?_ hS1)
  rw [← wst_2_0 hi]
  exact hP1
theorem wf_2_15 : Cond.fieldLink RX2 15 "PieFunnels$Parting" "served" "I" ∈ fkB := fkB_in (List.mem_of_getElem? (i := 293) (by decide +kernel)) rfl
theorem f_2_15 {g : fkG} {k : fkK} {ρ : Type} {en : ρ → Option Value} {cc : ByteArray} {nL fr lo pc : Nat} {ret : Option FieldType} {lv : List (Nat × Value)} {stk : List Value} {st : fkS} (hk : fk_ok wC g k RX2 cc nL ret fr lo) {i : Nat} {F1 : Int32 → Option (ρ × fkS)} (hi : kdC i = 2) (hdg : decode cc pc = .ok (.getfield 15, 3))
    (kk : ∀ x, fk_J wC g en k (pc + 3) lv (.int x :: stk) st (F1 x)) : fk_J wC g en k pc lv (fk_r g i :: stk) st (fk_let (gI st 41 i) F1) := by
  intro o ho hq
  have kk := kk (gI st 41 i) o ho hq
  obtain ⟨p, l, e, R, s, m, args, below, meth, c, rv, sf⟩ := k
  obtain ⟨hx, hb, hml, hown, hts, hK, hE, hr, hlk, hinj, hfr, hlo⟩ := hk
  intro H locs ls hl hP hS
  exact va_get (D := g.2.1) (ci := 2) (C := RX2) (T := TX2) (N := 5) (v := .int (gI st 41 i)) hx hb hts wB_2 hown hK hP i (wat_2 hi) rfl 1 (by decide) (hts _ wf_2_15) (fun _ h => h) rfl hdg (kk H locs ls hl hP hS)
theorem p_2_15 {g : fkG} {k : fkK} {ρ : Type} {en : ρ → Option Value} {cc : ByteArray} {nL fr lo pc : Nat} {ret : Option FieldType} {lv : List (Nat × Value)} {stk : List Value} {st : fkS} (hk : fk_ok wC g k RX2 cc nL ret fr lo) {i : Nat} {v : Int32} {F1 : fkS → Option (ρ × fkS)} (hi : kdC i = 2) (hdg : decode cc pc = .ok (.putfield 15, 3))
    (kk : ∀ st1, fk_J wC g en k (pc + 3) lv stk st1 (F1 st1)) : fk_J wC g en k pc lv (.int v :: fk_r g i :: stk) st (fk_let (sI st 41 i v) F1) := by
  intro o ho hq
  have kk := kk (sI st 41 i v) o ho hq
  obtain ⟨p, l, e, R, s, m, args, below, meth, c, rv, sf⟩ := k
  obtain ⟨hx, hb, hml, hown, hts, hK, hE, hr, hlk, hinj, hfr, hlo⟩ := hk
  intro H locs ls hl hP hS
  refine va_put (D := g.2.1) (ci := 2) (C := RX2) (T := TX2) (N := 5) (v := .int v) (ty := .int) hx hb hts wB_2 tyX2 tyX2_ok nmX2 hown hK hP (fk_wD hinj _ _) hS i (wat_2 hi) rfl 1 (by decide) (hts _ wf_2_15) (fun _ h => h) rfl (by decide +kernel) rfl rfl (Nat.le_of_ble_eq_true rfl) hdg (fun H1 locs1 hP1 hD1 hS1 => kk H1 locs1 ls hl ?_ hS1)
  rw [← wst_2_1 hi]
  exact hP1
theorem wf_7_286 : Cond.fieldLinkNest RX7 286 "PieFunnels$Parting" "served" "I" "PieFunnels" ∈ fk_nests := List.mem_of_getElem? (i := 37) (by decide +kernel)
theorem f_7_286 {g : fkG} {k : fkK} {ρ : Type} {en : ρ → Option Value} {cc : ByteArray} {nL fr lo pc : Nat} {ret : Option FieldType} {lv : List (Nat × Value)} {stk : List Value} {st : fkS} (hk : fk_ok wC g k RX7 cc nL ret fr lo) {i : Nat} {F1 : Int32 → Option (ρ × fkS)} (hi : kdC i = 2) (hdg : decode cc pc = .ok (.getfield 286, 3))
    (kk : ∀ x, fk_J wC g en k (pc + 3) lv (.int x :: stk) st (F1 x)) : fk_J wC g en k pc lv (fk_r g i :: stk) st (fk_let (gI st 41 i) F1) := by
  intro o ho hq
  have kk := kk (gI st 41 i) o ho hq
  obtain ⟨p, l, e, R, s, m, args, below, meth, c, rv, sf⟩ := k
  obtain ⟨hx, hb, hml, hown, hts, hK, hE, hr, hlk, hinj, hfr, hlo⟩ := hk
  intro H locs ls hl hP hS
  exact va_getN (D := g.2.1) (ci := 2) (C := RX2) (T := TX2) (N := 5) (v := .int (gI st 41 i)) hx hb hts wB_2 hown hK hP i (wat_2 hi) rfl 1 (by decide) (va_Nw.use rfl (hE.1 _ wf_7_286)) (fun _ h => h) rfl hdg (kk H locs ls hl hP hS)
theorem p_7_286 {g : fkG} {k : fkK} {ρ : Type} {en : ρ → Option Value} {cc : ByteArray} {nL fr lo pc : Nat} {ret : Option FieldType} {lv : List (Nat × Value)} {stk : List Value} {st : fkS} (hk : fk_ok wC g k RX7 cc nL ret fr lo) {i : Nat} {v : Int32} {F1 : fkS → Option (ρ × fkS)} (hi : kdC i = 2) (hdg : decode cc pc = .ok (.putfield 286, 3))
    (kk : ∀ st1, fk_J wC g en k (pc + 3) lv stk st1 (F1 st1)) : fk_J wC g en k pc lv (.int v :: fk_r g i :: stk) st (fk_let (sI st 41 i v) F1) := by
  intro o ho hq
  have kk := kk (sI st 41 i v) o ho hq
  obtain ⟨p, l, e, R, s, m, args, below, meth, c, rv, sf⟩ := k
  obtain ⟨hx, hb, hml, hown, hts, hK, hE, hr, hlk, hinj, hfr, hlo⟩ := hk
  intro H locs ls hl hP hS
  refine va_putN (D := g.2.1) (ci := 2) (C := RX2) (T := TX2) (N := 5) (v := .int v) (ty := .int) hx hb hts wB_2 tyX2 tyX2_ok nmX2 hown hK hP (fk_wD hinj _ _) hS i (wat_2 hi) rfl 1 (by decide) (va_Nw.use rfl (hE.1 _ wf_7_286)) (fun _ h => h) rfl (by decide +kernel) rfl rfl (Nat.le_of_ble_eq_true rfl) hdg (fun H1 locs1 hP1 hD1 hS1 => kk H1 locs1 ls hl ?_ hS1)
  rw [← wst_2_1 hi]
  exact hP1
theorem wf_2_18 : Cond.fieldLink RX2 18 "PieFunnels$Parting" "wishes" "[I" ∈ fkB := fkB_in (List.mem_of_getElem? (i := 295) (by decide +kernel)) rfl
theorem f_2_18 {g : fkG} {k : fkK} {ρ : Type} {en : ρ → Option Value} {cc : ByteArray} {nL fr lo pc : Nat} {ret : Option FieldType} {lv : List (Nat × Value)} {stk : List Value} {st : fkS} {F : Option (ρ × fkS)} (hk : fk_ok wC g k RX2 cc nL ret fr lo) {i : Nat} (hi : kdC i = 2) (hdg : decode cc pc = .ok (.getfield 18, 3))
    (kk : fk_J wC g en k (pc + 3) lv (fk_r g (i + 1) :: stk) st F) : fk_J wC g en k pc lv (fk_r g i :: stk) st F := by
  intro o ho hq
  have kk := kk o ho hq
  obtain ⟨p, l, e, R, s, m, args, below, meth, c, rv, sf⟩ := k
  obtain ⟨hx, hb, hml, hown, hts, hK, hE, hr, hlk, hinj, hfr, hlo⟩ := hk
  intro H locs ls hl hP hS
  exact va_get (D := g.2.1) (ci := 2) (C := RX2) (T := TX2) (N := 5) (v := fk_r g (i + 1)) hx hb hts wB_2 hown hK hP i (wat_2 hi) rfl 2 (by decide) (hts _ wf_2_18) (fun _ h => h) rfl hdg (kk H locs ls hl hP hS)
theorem wf_2_22 : Cond.fieldLink RX2 22 "PieFunnels$Parting" "whom" "[I" ∈ fkB := fkB_in (List.mem_of_getElem? (i := 296) (by decide +kernel)) rfl
theorem f_2_22 {g : fkG} {k : fkK} {ρ : Type} {en : ρ → Option Value} {cc : ByteArray} {nL fr lo pc : Nat} {ret : Option FieldType} {lv : List (Nat × Value)} {stk : List Value} {st : fkS} {F : Option (ρ × fkS)} (hk : fk_ok wC g k RX2 cc nL ret fr lo) {i : Nat} (hi : kdC i = 2) (hdg : decode cc pc = .ok (.getfield 22, 3))
    (kk : fk_J wC g en k (pc + 3) lv (fk_r g (i + 2) :: stk) st F) : fk_J wC g en k pc lv (fk_r g i :: stk) st F := by
  intro o ho hq
  have kk := kk o ho hq
  obtain ⟨p, l, e, R, s, m, args, below, meth, c, rv, sf⟩ := k
  obtain ⟨hx, hb, hml, hown, hts, hK, hE, hr, hlk, hinj, hfr, hlo⟩ := hk
  intro H locs ls hl hP hS
  exact va_get (D := g.2.1) (ci := 2) (C := RX2) (T := TX2) (N := 5) (v := fk_r g (i + 2)) hx hb hts wB_2 hown hK hP i (wat_2 hi) rfl 3 (by decide) (hts _ wf_2_22) (fun _ h => h) rfl hdg (kk H locs ls hl hP hS)
theorem wf_2_25 : Cond.fieldLink RX2 25 "PieFunnels$Parting" "brought" "[I" ∈ fkB := fkB_in (List.mem_of_getElem? (i := 297) (by decide +kernel)) rfl
theorem f_2_25 {g : fkG} {k : fkK} {ρ : Type} {en : ρ → Option Value} {cc : ByteArray} {nL fr lo pc : Nat} {ret : Option FieldType} {lv : List (Nat × Value)} {stk : List Value} {st : fkS} {F : Option (ρ × fkS)} (hk : fk_ok wC g k RX2 cc nL ret fr lo) {i : Nat} (hi : kdC i = 2) (hdg : decode cc pc = .ok (.getfield 25, 3))
    (kk : fk_J wC g en k (pc + 3) lv (fk_r g (i + 3) :: stk) st F) : fk_J wC g en k pc lv (fk_r g i :: stk) st F := by
  intro o ho hq
  have kk := kk o ho hq
  obtain ⟨p, l, e, R, s, m, args, below, meth, c, rv, sf⟩ := k
  obtain ⟨hx, hb, hml, hown, hts, hK, hE, hr, hlk, hinj, hfr, hlo⟩ := hk
  intro H locs ls hl hP hS
  exact va_get (D := g.2.1) (ci := 2) (C := RX2) (T := TX2) (N := 5) (v := fk_r g (i + 3)) hx hb hts wB_2 hown hK hP i (wat_2 hi) rfl 4 (by decide) (hts _ wf_2_25) (fun _ h => h) rfl hdg (kk H locs ls hl hP hS)
theorem wf_5_11 : Cond.fieldLink RX5 11 "PieFunnels$Shelf" "content" "I" ∈ fkB := fkB_in (List.mem_of_getElem? (i := 314) (by decide +kernel)) rfl
theorem f_5_11 {g : fkG} {k : fkK} {ρ : Type} {en : ρ → Option Value} {cc : ByteArray} {nL fr lo pc : Nat} {ret : Option FieldType} {lv : List (Nat × Value)} {stk : List Value} {st : fkS} (hk : fk_ok wC g k RX5 cc nL ret fr lo) {i : Nat} {F1 : Int32 → Option (ρ × fkS)} (hi : kdC i = 5) (hdg : decode cc pc = .ok (.getfield 11, 3))
    (kk : ∀ x, fk_J wC g en k (pc + 3) lv (.int x :: stk) st (F1 x)) : fk_J wC g en k pc lv (fk_r g i :: stk) st (fk_let (gI st 100 i) F1) := by
  intro o ho hq
  have kk := kk (gI st 100 i) o ho hq
  obtain ⟨p, l, e, R, s, m, args, below, meth, c, rv, sf⟩ := k
  obtain ⟨hx, hb, hml, hown, hts, hK, hE, hr, hlk, hinj, hfr, hlo⟩ := hk
  intro H locs ls hl hP hS
  exact va_get (D := g.2.1) (ci := 5) (C := RX5) (T := TX5) (N := 5) (v := .int (gI st 100 i)) hx hb hts wB_5 hown hK hP i (wat_5 hi) rfl 0 (by decide) (hts _ wf_5_11) (fun _ h => h) rfl hdg (kk H locs ls hl hP hS)
theorem p_5_11 {g : fkG} {k : fkK} {ρ : Type} {en : ρ → Option Value} {cc : ByteArray} {nL fr lo pc : Nat} {ret : Option FieldType} {lv : List (Nat × Value)} {stk : List Value} {st : fkS} (hk : fk_ok wC g k RX5 cc nL ret fr lo) {i : Nat} {v : Int32} {F1 : fkS → Option (ρ × fkS)} (hi : kdC i = 5) (hdg : decode cc pc = .ok (.putfield 11, 3))
    (kk : ∀ st1, fk_J wC g en k (pc + 3) lv stk st1 (F1 st1)) : fk_J wC g en k pc lv (.int v :: fk_r g i :: stk) st (fk_let (sI st 100 i v) F1) := by
  intro o ho hq
  have kk := kk (sI st 100 i v) o ho hq
  obtain ⟨p, l, e, R, s, m, args, below, meth, c, rv, sf⟩ := k
  obtain ⟨hx, hb, hml, hown, hts, hK, hE, hr, hlk, hinj, hfr, hlo⟩ := hk
  intro H locs ls hl hP hS
  refine va_put (D := g.2.1) (ci := 5) (C := RX5) (T := TX5) (N := 5) (v := .int v) (ty := .int) hx hb hts wB_5 tyX5 tyX5_ok nmX5 hown hK hP (fk_wD hinj _ _) hS i (wat_5 hi) rfl 0 (by decide) (hts _ wf_5_11) (fun _ h => h) rfl (by decide +kernel) rfl rfl (Nat.le_of_ble_eq_true rfl) hdg (fun H1 locs1 hP1 hD1 hS1 => kk H1 locs1 ls hl ?_ hS1)
  rw [← wst_5_0 hi]
  exact hP1
theorem wf_7_133 : Cond.fieldLinkNest RX7 133 "PieFunnels$Shelf" "content" "I" "PieFunnels" ∈ fk_nests := List.mem_of_getElem? (i := 38) (by decide +kernel)
theorem f_7_133 {g : fkG} {k : fkK} {ρ : Type} {en : ρ → Option Value} {cc : ByteArray} {nL fr lo pc : Nat} {ret : Option FieldType} {lv : List (Nat × Value)} {stk : List Value} {st : fkS} (hk : fk_ok wC g k RX7 cc nL ret fr lo) {i : Nat} {F1 : Int32 → Option (ρ × fkS)} (hi : kdC i = 5) (hdg : decode cc pc = .ok (.getfield 133, 3))
    (kk : ∀ x, fk_J wC g en k (pc + 3) lv (.int x :: stk) st (F1 x)) : fk_J wC g en k pc lv (fk_r g i :: stk) st (fk_let (gI st 100 i) F1) := by
  intro o ho hq
  have kk := kk (gI st 100 i) o ho hq
  obtain ⟨p, l, e, R, s, m, args, below, meth, c, rv, sf⟩ := k
  obtain ⟨hx, hb, hml, hown, hts, hK, hE, hr, hlk, hinj, hfr, hlo⟩ := hk
  intro H locs ls hl hP hS
  exact va_getN (D := g.2.1) (ci := 5) (C := RX5) (T := TX5) (N := 5) (v := .int (gI st 100 i)) hx hb hts wB_5 hown hK hP i (wat_5 hi) rfl 0 (by decide) (va_Nw.use rfl (hE.1 _ wf_7_133)) (fun _ h => h) rfl hdg (kk H locs ls hl hP hS)
theorem p_7_133 {g : fkG} {k : fkK} {ρ : Type} {en : ρ → Option Value} {cc : ByteArray} {nL fr lo pc : Nat} {ret : Option FieldType} {lv : List (Nat × Value)} {stk : List Value} {st : fkS} (hk : fk_ok wC g k RX7 cc nL ret fr lo) {i : Nat} {v : Int32} {F1 : fkS → Option (ρ × fkS)} (hi : kdC i = 5) (hdg : decode cc pc = .ok (.putfield 133, 3))
    (kk : ∀ st1, fk_J wC g en k (pc + 3) lv stk st1 (F1 st1)) : fk_J wC g en k pc lv (.int v :: fk_r g i :: stk) st (fk_let (sI st 100 i v) F1) := by
  intro o ho hq
  have kk := kk (sI st 100 i v) o ho hq
  obtain ⟨p, l, e, R, s, m, args, below, meth, c, rv, sf⟩ := k
  obtain ⟨hx, hb, hml, hown, hts, hK, hE, hr, hlk, hinj, hfr, hlo⟩ := hk
  intro H locs ls hl hP hS
  refine va_putN (D := g.2.1) (ci := 5) (C := RX5) (T := TX5) (N := 5) (v := .int v) (ty := .int) hx hb hts wB_5 tyX5 tyX5_ok nmX5 hown hK hP (fk_wD hinj _ _) hS i (wat_5 hi) rfl 0 (by decide) (va_Nw.use rfl (hE.1 _ wf_7_133)) (fun _ h => h) rfl (by decide +kernel) rfl rfl (Nat.le_of_ble_eq_true rfl) hdg (fun H1 locs1 hP1 hD1 hS1 => kk H1 locs1 ls hl ?_ hS1)
  rw [← wst_5_0 hi]
  exact hP1
theorem wf_5_15 : Cond.fieldLink RX5 15 "PieFunnels$Shelf" "bird" "I" ∈ fkB := fkB_in (List.mem_of_getElem? (i := 316) (by decide +kernel)) rfl
theorem f_5_15 {g : fkG} {k : fkK} {ρ : Type} {en : ρ → Option Value} {cc : ByteArray} {nL fr lo pc : Nat} {ret : Option FieldType} {lv : List (Nat × Value)} {stk : List Value} {st : fkS} (hk : fk_ok wC g k RX5 cc nL ret fr lo) {i : Nat} {F1 : Int32 → Option (ρ × fkS)} (hi : kdC i = 5) (hdg : decode cc pc = .ok (.getfield 15, 3))
    (kk : ∀ x, fk_J wC g en k (pc + 3) lv (.int x :: stk) st (F1 x)) : fk_J wC g en k pc lv (fk_r g i :: stk) st (fk_let (gI st 101 i) F1) := by
  intro o ho hq
  have kk := kk (gI st 101 i) o ho hq
  obtain ⟨p, l, e, R, s, m, args, below, meth, c, rv, sf⟩ := k
  obtain ⟨hx, hb, hml, hown, hts, hK, hE, hr, hlk, hinj, hfr, hlo⟩ := hk
  intro H locs ls hl hP hS
  exact va_get (D := g.2.1) (ci := 5) (C := RX5) (T := TX5) (N := 5) (v := .int (gI st 101 i)) hx hb hts wB_5 hown hK hP i (wat_5 hi) rfl 1 (by decide) (hts _ wf_5_15) (fun _ h => h) rfl hdg (kk H locs ls hl hP hS)
theorem p_5_15 {g : fkG} {k : fkK} {ρ : Type} {en : ρ → Option Value} {cc : ByteArray} {nL fr lo pc : Nat} {ret : Option FieldType} {lv : List (Nat × Value)} {stk : List Value} {st : fkS} (hk : fk_ok wC g k RX5 cc nL ret fr lo) {i : Nat} {v : Int32} {F1 : fkS → Option (ρ × fkS)} (hi : kdC i = 5) (hdg : decode cc pc = .ok (.putfield 15, 3))
    (kk : ∀ st1, fk_J wC g en k (pc + 3) lv stk st1 (F1 st1)) : fk_J wC g en k pc lv (.int v :: fk_r g i :: stk) st (fk_let (sI st 101 i v) F1) := by
  intro o ho hq
  have kk := kk (sI st 101 i v) o ho hq
  obtain ⟨p, l, e, R, s, m, args, below, meth, c, rv, sf⟩ := k
  obtain ⟨hx, hb, hml, hown, hts, hK, hE, hr, hlk, hinj, hfr, hlo⟩ := hk
  intro H locs ls hl hP hS
  refine va_put (D := g.2.1) (ci := 5) (C := RX5) (T := TX5) (N := 5) (v := .int v) (ty := .int) hx hb hts wB_5 tyX5 tyX5_ok nmX5 hown hK hP (fk_wD hinj _ _) hS i (wat_5 hi) rfl 1 (by decide) (hts _ wf_5_15) (fun _ h => h) rfl (by decide +kernel) rfl rfl (Nat.le_of_ble_eq_true rfl) hdg (fun H1 locs1 hP1 hD1 hS1 => kk H1 locs1 ls hl ?_ hS1)
  rw [← wst_5_1 hi]
  exact hP1
theorem wf_7_136 : Cond.fieldLinkNest RX7 136 "PieFunnels$Shelf" "bird" "I" "PieFunnels" ∈ fk_nests := List.mem_of_getElem? (i := 39) (by decide +kernel)
theorem f_7_136 {g : fkG} {k : fkK} {ρ : Type} {en : ρ → Option Value} {cc : ByteArray} {nL fr lo pc : Nat} {ret : Option FieldType} {lv : List (Nat × Value)} {stk : List Value} {st : fkS} (hk : fk_ok wC g k RX7 cc nL ret fr lo) {i : Nat} {F1 : Int32 → Option (ρ × fkS)} (hi : kdC i = 5) (hdg : decode cc pc = .ok (.getfield 136, 3))
    (kk : ∀ x, fk_J wC g en k (pc + 3) lv (.int x :: stk) st (F1 x)) : fk_J wC g en k pc lv (fk_r g i :: stk) st (fk_let (gI st 101 i) F1) := by
  intro o ho hq
  have kk := kk (gI st 101 i) o ho hq
  obtain ⟨p, l, e, R, s, m, args, below, meth, c, rv, sf⟩ := k
  obtain ⟨hx, hb, hml, hown, hts, hK, hE, hr, hlk, hinj, hfr, hlo⟩ := hk
  intro H locs ls hl hP hS
  exact va_getN (D := g.2.1) (ci := 5) (C := RX5) (T := TX5) (N := 5) (v := .int (gI st 101 i)) hx hb hts wB_5 hown hK hP i (wat_5 hi) rfl 1 (by decide) (va_Nw.use rfl (hE.1 _ wf_7_136)) (fun _ h => h) rfl hdg (kk H locs ls hl hP hS)
theorem p_7_136 {g : fkG} {k : fkK} {ρ : Type} {en : ρ → Option Value} {cc : ByteArray} {nL fr lo pc : Nat} {ret : Option FieldType} {lv : List (Nat × Value)} {stk : List Value} {st : fkS} (hk : fk_ok wC g k RX7 cc nL ret fr lo) {i : Nat} {v : Int32} {F1 : fkS → Option (ρ × fkS)} (hi : kdC i = 5) (hdg : decode cc pc = .ok (.putfield 136, 3))
    (kk : ∀ st1, fk_J wC g en k (pc + 3) lv stk st1 (F1 st1)) : fk_J wC g en k pc lv (.int v :: fk_r g i :: stk) st (fk_let (sI st 101 i v) F1) := by
  intro o ho hq
  have kk := kk (sI st 101 i v) o ho hq
  obtain ⟨p, l, e, R, s, m, args, below, meth, c, rv, sf⟩ := k
  obtain ⟨hx, hb, hml, hown, hts, hK, hE, hr, hlk, hinj, hfr, hlo⟩ := hk
  intro H locs ls hl hP hS
  refine va_putN (D := g.2.1) (ci := 5) (C := RX5) (T := TX5) (N := 5) (v := .int v) (ty := .int) hx hb hts wB_5 tyX5 tyX5_ok nmX5 hown hK hP (fk_wD hinj _ _) hS i (wat_5 hi) rfl 1 (by decide) (va_Nw.use rfl (hE.1 _ wf_7_136)) (fun _ h => h) rfl (by decide +kernel) rfl rfl (Nat.le_of_ble_eq_true rfl) hdg (fun H1 locs1 hP1 hD1 hS1 => kk H1 locs1 ls hl ?_ hS1)
  rw [← wst_5_1 hi]
  exact hP1
theorem wf_5_18 : Cond.fieldLink RX5 18 "PieFunnels$Shelf" "sort" "I" ∈ fkB := fkB_in (List.mem_of_getElem? (i := 318) (by decide +kernel)) rfl
theorem f_5_18 {g : fkG} {k : fkK} {ρ : Type} {en : ρ → Option Value} {cc : ByteArray} {nL fr lo pc : Nat} {ret : Option FieldType} {lv : List (Nat × Value)} {stk : List Value} {st : fkS} (hk : fk_ok wC g k RX5 cc nL ret fr lo) {i : Nat} {F1 : Int32 → Option (ρ × fkS)} (hi : kdC i = 5) (hdg : decode cc pc = .ok (.getfield 18, 3))
    (kk : ∀ x, fk_J wC g en k (pc + 3) lv (.int x :: stk) st (F1 x)) : fk_J wC g en k pc lv (fk_r g i :: stk) st (fk_let (gI st 102 i) F1) := by
  intro o ho hq
  have kk := kk (gI st 102 i) o ho hq
  obtain ⟨p, l, e, R, s, m, args, below, meth, c, rv, sf⟩ := k
  obtain ⟨hx, hb, hml, hown, hts, hK, hE, hr, hlk, hinj, hfr, hlo⟩ := hk
  intro H locs ls hl hP hS
  exact va_get (D := g.2.1) (ci := 5) (C := RX5) (T := TX5) (N := 5) (v := .int (gI st 102 i)) hx hb hts wB_5 hown hK hP i (wat_5 hi) rfl 2 (by decide) (hts _ wf_5_18) (fun _ h => h) rfl hdg (kk H locs ls hl hP hS)
theorem p_5_18 {g : fkG} {k : fkK} {ρ : Type} {en : ρ → Option Value} {cc : ByteArray} {nL fr lo pc : Nat} {ret : Option FieldType} {lv : List (Nat × Value)} {stk : List Value} {st : fkS} (hk : fk_ok wC g k RX5 cc nL ret fr lo) {i : Nat} {v : Int32} {F1 : fkS → Option (ρ × fkS)} (hi : kdC i = 5) (hdg : decode cc pc = .ok (.putfield 18, 3))
    (kk : ∀ st1, fk_J wC g en k (pc + 3) lv stk st1 (F1 st1)) : fk_J wC g en k pc lv (.int v :: fk_r g i :: stk) st (fk_let (sI st 102 i v) F1) := by
  intro o ho hq
  have kk := kk (sI st 102 i v) o ho hq
  obtain ⟨p, l, e, R, s, m, args, below, meth, c, rv, sf⟩ := k
  obtain ⟨hx, hb, hml, hown, hts, hK, hE, hr, hlk, hinj, hfr, hlo⟩ := hk
  intro H locs ls hl hP hS
  refine va_put (D := g.2.1) (ci := 5) (C := RX5) (T := TX5) (N := 5) (v := .int v) (ty := .int) hx hb hts wB_5 tyX5 tyX5_ok nmX5 hown hK hP (fk_wD hinj _ _) hS i (wat_5 hi) rfl 2 (by decide) (hts _ wf_5_18) (fun _ h => h) rfl (by decide +kernel) rfl rfl (Nat.le_of_ble_eq_true rfl) hdg (fun H1 locs1 hP1 hD1 hS1 => kk H1 locs1 ls hl ?_ hS1)
  rw [← wst_5_2 hi]
  exact hP1
theorem wf_7_102 : Cond.fieldLinkNest RX7 102 "PieFunnels$Shelf" "sort" "I" "PieFunnels" ∈ fk_nests := List.mem_of_getElem? (i := 40) (by decide +kernel)
theorem f_7_102 {g : fkG} {k : fkK} {ρ : Type} {en : ρ → Option Value} {cc : ByteArray} {nL fr lo pc : Nat} {ret : Option FieldType} {lv : List (Nat × Value)} {stk : List Value} {st : fkS} (hk : fk_ok wC g k RX7 cc nL ret fr lo) {i : Nat} {F1 : Int32 → Option (ρ × fkS)} (hi : kdC i = 5) (hdg : decode cc pc = .ok (.getfield 102, 3))
    (kk : ∀ x, fk_J wC g en k (pc + 3) lv (.int x :: stk) st (F1 x)) : fk_J wC g en k pc lv (fk_r g i :: stk) st (fk_let (gI st 102 i) F1) := by
  intro o ho hq
  have kk := kk (gI st 102 i) o ho hq
  obtain ⟨p, l, e, R, s, m, args, below, meth, c, rv, sf⟩ := k
  obtain ⟨hx, hb, hml, hown, hts, hK, hE, hr, hlk, hinj, hfr, hlo⟩ := hk
  intro H locs ls hl hP hS
  exact va_getN (D := g.2.1) (ci := 5) (C := RX5) (T := TX5) (N := 5) (v := .int (gI st 102 i)) hx hb hts wB_5 hown hK hP i (wat_5 hi) rfl 2 (by decide) (va_Nw.use rfl (hE.1 _ wf_7_102)) (fun _ h => h) rfl hdg (kk H locs ls hl hP hS)
theorem p_7_102 {g : fkG} {k : fkK} {ρ : Type} {en : ρ → Option Value} {cc : ByteArray} {nL fr lo pc : Nat} {ret : Option FieldType} {lv : List (Nat × Value)} {stk : List Value} {st : fkS} (hk : fk_ok wC g k RX7 cc nL ret fr lo) {i : Nat} {v : Int32} {F1 : fkS → Option (ρ × fkS)} (hi : kdC i = 5) (hdg : decode cc pc = .ok (.putfield 102, 3))
    (kk : ∀ st1, fk_J wC g en k (pc + 3) lv stk st1 (F1 st1)) : fk_J wC g en k pc lv (.int v :: fk_r g i :: stk) st (fk_let (sI st 102 i v) F1) := by
  intro o ho hq
  have kk := kk (sI st 102 i v) o ho hq
  obtain ⟨p, l, e, R, s, m, args, below, meth, c, rv, sf⟩ := k
  obtain ⟨hx, hb, hml, hown, hts, hK, hE, hr, hlk, hinj, hfr, hlo⟩ := hk
  intro H locs ls hl hP hS
  refine va_putN (D := g.2.1) (ci := 5) (C := RX5) (T := TX5) (N := 5) (v := .int v) (ty := .int) hx hb hts wB_5 tyX5 tyX5_ok nmX5 hown hK hP (fk_wD hinj _ _) hS i (wat_5 hi) rfl 2 (by decide) (va_Nw.use rfl (hE.1 _ wf_7_102)) (fun _ h => h) rfl (by decide +kernel) rfl rfl (Nat.le_of_ble_eq_true rfl) hdg (fun H1 locs1 hP1 hD1 hS1 => kk H1 locs1 ls hl ?_ hS1)
  rw [← wst_5_2 hi]
  exact hP1
theorem wf_5_21 : Cond.fieldLink RX5 21 "PieFunnels$Shelf" "size" "I" ∈ fkB := fkB_in (List.mem_of_getElem? (i := 320) (by decide +kernel)) rfl
theorem f_5_21 {g : fkG} {k : fkK} {ρ : Type} {en : ρ → Option Value} {cc : ByteArray} {nL fr lo pc : Nat} {ret : Option FieldType} {lv : List (Nat × Value)} {stk : List Value} {st : fkS} (hk : fk_ok wC g k RX5 cc nL ret fr lo) {i : Nat} {F1 : Int32 → Option (ρ × fkS)} (hi : kdC i = 5) (hdg : decode cc pc = .ok (.getfield 21, 3))
    (kk : ∀ x, fk_J wC g en k (pc + 3) lv (.int x :: stk) st (F1 x)) : fk_J wC g en k pc lv (fk_r g i :: stk) st (fk_let (gI st 103 i) F1) := by
  intro o ho hq
  have kk := kk (gI st 103 i) o ho hq
  obtain ⟨p, l, e, R, s, m, args, below, meth, c, rv, sf⟩ := k
  obtain ⟨hx, hb, hml, hown, hts, hK, hE, hr, hlk, hinj, hfr, hlo⟩ := hk
  intro H locs ls hl hP hS
  exact va_get (D := g.2.1) (ci := 5) (C := RX5) (T := TX5) (N := 5) (v := .int (gI st 103 i)) hx hb hts wB_5 hown hK hP i (wat_5 hi) rfl 3 (by decide) (hts _ wf_5_21) (fun _ h => h) rfl hdg (kk H locs ls hl hP hS)
theorem p_5_21 {g : fkG} {k : fkK} {ρ : Type} {en : ρ → Option Value} {cc : ByteArray} {nL fr lo pc : Nat} {ret : Option FieldType} {lv : List (Nat × Value)} {stk : List Value} {st : fkS} (hk : fk_ok wC g k RX5 cc nL ret fr lo) {i : Nat} {v : Int32} {F1 : fkS → Option (ρ × fkS)} (hi : kdC i = 5) (hdg : decode cc pc = .ok (.putfield 21, 3))
    (kk : ∀ st1, fk_J wC g en k (pc + 3) lv stk st1 (F1 st1)) : fk_J wC g en k pc lv (.int v :: fk_r g i :: stk) st (fk_let (sI st 103 i v) F1) := by
  intro o ho hq
  have kk := kk (sI st 103 i v) o ho hq
  obtain ⟨p, l, e, R, s, m, args, below, meth, c, rv, sf⟩ := k
  obtain ⟨hx, hb, hml, hown, hts, hK, hE, hr, hlk, hinj, hfr, hlo⟩ := hk
  intro H locs ls hl hP hS
  refine va_put (D := g.2.1) (ci := 5) (C := RX5) (T := TX5) (N := 5) (v := .int v) (ty := .int) hx hb hts wB_5 tyX5 tyX5_ok nmX5 hown hK hP (fk_wD hinj _ _) hS i (wat_5 hi) rfl 3 (by decide) (hts _ wf_5_21) (fun _ h => h) rfl (by decide +kernel) rfl rfl (Nat.le_of_ble_eq_true rfl) hdg (fun H1 locs1 hP1 hD1 hS1 => kk H1 locs1 ls hl ?_ hS1)
  rw [← wst_5_3 hi]
  exact hP1
theorem wf_3_19 : Cond.fieldLinkNest RX3 19 "PieFunnels$Shelf" "size" "I" "PieFunnels" ∈ fk_nests := List.mem_of_getElem? (i := 41) (by decide +kernel)
theorem f_3_19 {g : fkG} {k : fkK} {ρ : Type} {en : ρ → Option Value} {cc : ByteArray} {nL fr lo pc : Nat} {ret : Option FieldType} {lv : List (Nat × Value)} {stk : List Value} {st : fkS} (hk : fk_ok wC g k RX3 cc nL ret fr lo) {i : Nat} {F1 : Int32 → Option (ρ × fkS)} (hi : kdC i = 5) (hdg : decode cc pc = .ok (.getfield 19, 3))
    (kk : ∀ x, fk_J wC g en k (pc + 3) lv (.int x :: stk) st (F1 x)) : fk_J wC g en k pc lv (fk_r g i :: stk) st (fk_let (gI st 103 i) F1) := by
  intro o ho hq
  have kk := kk (gI st 103 i) o ho hq
  obtain ⟨p, l, e, R, s, m, args, below, meth, c, rv, sf⟩ := k
  obtain ⟨hx, hb, hml, hown, hts, hK, hE, hr, hlk, hinj, hfr, hlo⟩ := hk
  intro H locs ls hl hP hS
  exact va_getN (D := g.2.1) (ci := 5) (C := RX5) (T := TX5) (N := 5) (v := .int (gI st 103 i)) hx hb hts wB_5 hown hK hP i (wat_5 hi) rfl 3 (by decide) (va_Nw.use rfl (hE.1 _ wf_3_19)) (fun _ h => h) rfl hdg (kk H locs ls hl hP hS)
theorem p_3_19 {g : fkG} {k : fkK} {ρ : Type} {en : ρ → Option Value} {cc : ByteArray} {nL fr lo pc : Nat} {ret : Option FieldType} {lv : List (Nat × Value)} {stk : List Value} {st : fkS} (hk : fk_ok wC g k RX3 cc nL ret fr lo) {i : Nat} {v : Int32} {F1 : fkS → Option (ρ × fkS)} (hi : kdC i = 5) (hdg : decode cc pc = .ok (.putfield 19, 3))
    (kk : ∀ st1, fk_J wC g en k (pc + 3) lv stk st1 (F1 st1)) : fk_J wC g en k pc lv (.int v :: fk_r g i :: stk) st (fk_let (sI st 103 i v) F1) := by
  intro o ho hq
  have kk := kk (sI st 103 i v) o ho hq
  obtain ⟨p, l, e, R, s, m, args, below, meth, c, rv, sf⟩ := k
  obtain ⟨hx, hb, hml, hown, hts, hK, hE, hr, hlk, hinj, hfr, hlo⟩ := hk
  intro H locs ls hl hP hS
  refine va_putN (D := g.2.1) (ci := 5) (C := RX5) (T := TX5) (N := 5) (v := .int v) (ty := .int) hx hb hts wB_5 tyX5 tyX5_ok nmX5 hown hK hP (fk_wD hinj _ _) hS i (wat_5 hi) rfl 3 (by decide) (va_Nw.use rfl (hE.1 _ wf_3_19)) (fun _ h => h) rfl (by decide +kernel) rfl rfl (Nat.le_of_ble_eq_true rfl) hdg (fun H1 locs1 hP1 hD1 hS1 => kk H1 locs1 ls hl ?_ hS1)
  rw [← wst_5_3 hi]
  exact hP1
theorem wf_2_28 : Cond.fieldLinkNest RX2 28 "PieFunnels$Shelf" "size" "I" "PieFunnels" ∈ fk_nests := List.mem_of_getElem? (i := 42) (by decide +kernel)
theorem f_2_28 {g : fkG} {k : fkK} {ρ : Type} {en : ρ → Option Value} {cc : ByteArray} {nL fr lo pc : Nat} {ret : Option FieldType} {lv : List (Nat × Value)} {stk : List Value} {st : fkS} (hk : fk_ok wC g k RX2 cc nL ret fr lo) {i : Nat} {F1 : Int32 → Option (ρ × fkS)} (hi : kdC i = 5) (hdg : decode cc pc = .ok (.getfield 28, 3))
    (kk : ∀ x, fk_J wC g en k (pc + 3) lv (.int x :: stk) st (F1 x)) : fk_J wC g en k pc lv (fk_r g i :: stk) st (fk_let (gI st 103 i) F1) := by
  intro o ho hq
  have kk := kk (gI st 103 i) o ho hq
  obtain ⟨p, l, e, R, s, m, args, below, meth, c, rv, sf⟩ := k
  obtain ⟨hx, hb, hml, hown, hts, hK, hE, hr, hlk, hinj, hfr, hlo⟩ := hk
  intro H locs ls hl hP hS
  exact va_getN (D := g.2.1) (ci := 5) (C := RX5) (T := TX5) (N := 5) (v := .int (gI st 103 i)) hx hb hts wB_5 hown hK hP i (wat_5 hi) rfl 3 (by decide) (va_Nw.use rfl (hE.1 _ wf_2_28)) (fun _ h => h) rfl hdg (kk H locs ls hl hP hS)
theorem p_2_28 {g : fkG} {k : fkK} {ρ : Type} {en : ρ → Option Value} {cc : ByteArray} {nL fr lo pc : Nat} {ret : Option FieldType} {lv : List (Nat × Value)} {stk : List Value} {st : fkS} (hk : fk_ok wC g k RX2 cc nL ret fr lo) {i : Nat} {v : Int32} {F1 : fkS → Option (ρ × fkS)} (hi : kdC i = 5) (hdg : decode cc pc = .ok (.putfield 28, 3))
    (kk : ∀ st1, fk_J wC g en k (pc + 3) lv stk st1 (F1 st1)) : fk_J wC g en k pc lv (.int v :: fk_r g i :: stk) st (fk_let (sI st 103 i v) F1) := by
  intro o ho hq
  have kk := kk (sI st 103 i v) o ho hq
  obtain ⟨p, l, e, R, s, m, args, below, meth, c, rv, sf⟩ := k
  obtain ⟨hx, hb, hml, hown, hts, hK, hE, hr, hlk, hinj, hfr, hlo⟩ := hk
  intro H locs ls hl hP hS
  refine va_putN (D := g.2.1) (ci := 5) (C := RX5) (T := TX5) (N := 5) (v := .int v) (ty := .int) hx hb hts wB_5 tyX5 tyX5_ok nmX5 hown hK hP (fk_wD hinj _ _) hS i (wat_5 hi) rfl 3 (by decide) (va_Nw.use rfl (hE.1 _ wf_2_28)) (fun _ h => h) rfl (by decide +kernel) rfl rfl (Nat.le_of_ble_eq_true rfl) hdg (fun H1 locs1 hP1 hD1 hS1 => kk H1 locs1 ls hl ?_ hS1)
  rw [← wst_5_3 hi]
  exact hP1
theorem wf_4_34 : Cond.fieldLinkNest RX4 34 "PieFunnels$Shelf" "size" "I" "PieFunnels" ∈ fk_nests := List.mem_of_getElem? (i := 43) (by decide +kernel)
theorem f_4_34 {g : fkG} {k : fkK} {ρ : Type} {en : ρ → Option Value} {cc : ByteArray} {nL fr lo pc : Nat} {ret : Option FieldType} {lv : List (Nat × Value)} {stk : List Value} {st : fkS} (hk : fk_ok wC g k RX4 cc nL ret fr lo) {i : Nat} {F1 : Int32 → Option (ρ × fkS)} (hi : kdC i = 5) (hdg : decode cc pc = .ok (.getfield 34, 3))
    (kk : ∀ x, fk_J wC g en k (pc + 3) lv (.int x :: stk) st (F1 x)) : fk_J wC g en k pc lv (fk_r g i :: stk) st (fk_let (gI st 103 i) F1) := by
  intro o ho hq
  have kk := kk (gI st 103 i) o ho hq
  obtain ⟨p, l, e, R, s, m, args, below, meth, c, rv, sf⟩ := k
  obtain ⟨hx, hb, hml, hown, hts, hK, hE, hr, hlk, hinj, hfr, hlo⟩ := hk
  intro H locs ls hl hP hS
  exact va_getN (D := g.2.1) (ci := 5) (C := RX5) (T := TX5) (N := 5) (v := .int (gI st 103 i)) hx hb hts wB_5 hown hK hP i (wat_5 hi) rfl 3 (by decide) (va_Nw.use rfl (hE.1 _ wf_4_34)) (fun _ h => h) rfl hdg (kk H locs ls hl hP hS)
theorem p_4_34 {g : fkG} {k : fkK} {ρ : Type} {en : ρ → Option Value} {cc : ByteArray} {nL fr lo pc : Nat} {ret : Option FieldType} {lv : List (Nat × Value)} {stk : List Value} {st : fkS} (hk : fk_ok wC g k RX4 cc nL ret fr lo) {i : Nat} {v : Int32} {F1 : fkS → Option (ρ × fkS)} (hi : kdC i = 5) (hdg : decode cc pc = .ok (.putfield 34, 3))
    (kk : ∀ st1, fk_J wC g en k (pc + 3) lv stk st1 (F1 st1)) : fk_J wC g en k pc lv (.int v :: fk_r g i :: stk) st (fk_let (sI st 103 i v) F1) := by
  intro o ho hq
  have kk := kk (sI st 103 i v) o ho hq
  obtain ⟨p, l, e, R, s, m, args, below, meth, c, rv, sf⟩ := k
  obtain ⟨hx, hb, hml, hown, hts, hK, hE, hr, hlk, hinj, hfr, hlo⟩ := hk
  intro H locs ls hl hP hS
  refine va_putN (D := g.2.1) (ci := 5) (C := RX5) (T := TX5) (N := 5) (v := .int v) (ty := .int) hx hb hts wB_5 tyX5 tyX5_ok nmX5 hown hK hP (fk_wD hinj _ _) hS i (wat_5 hi) rfl 3 (by decide) (va_Nw.use rfl (hE.1 _ wf_4_34)) (fun _ h => h) rfl (by decide +kernel) rfl rfl (Nat.le_of_ble_eq_true rfl) hdg (fun H1 locs1 hP1 hD1 hS1 => kk H1 locs1 ls hl ?_ hS1)
  rw [← wst_5_3 hi]
  exact hP1
theorem wf_7_90 : Cond.fieldLinkNest RX7 90 "PieFunnels$Shelf" "size" "I" "PieFunnels" ∈ fk_nests := List.mem_of_getElem? (i := 44) (by decide +kernel)
theorem f_7_90 {g : fkG} {k : fkK} {ρ : Type} {en : ρ → Option Value} {cc : ByteArray} {nL fr lo pc : Nat} {ret : Option FieldType} {lv : List (Nat × Value)} {stk : List Value} {st : fkS} (hk : fk_ok wC g k RX7 cc nL ret fr lo) {i : Nat} {F1 : Int32 → Option (ρ × fkS)} (hi : kdC i = 5) (hdg : decode cc pc = .ok (.getfield 90, 3))
    (kk : ∀ x, fk_J wC g en k (pc + 3) lv (.int x :: stk) st (F1 x)) : fk_J wC g en k pc lv (fk_r g i :: stk) st (fk_let (gI st 103 i) F1) := by
  intro o ho hq
  have kk := kk (gI st 103 i) o ho hq
  obtain ⟨p, l, e, R, s, m, args, below, meth, c, rv, sf⟩ := k
  obtain ⟨hx, hb, hml, hown, hts, hK, hE, hr, hlk, hinj, hfr, hlo⟩ := hk
  intro H locs ls hl hP hS
  exact va_getN (D := g.2.1) (ci := 5) (C := RX5) (T := TX5) (N := 5) (v := .int (gI st 103 i)) hx hb hts wB_5 hown hK hP i (wat_5 hi) rfl 3 (by decide) (va_Nw.use rfl (hE.1 _ wf_7_90)) (fun _ h => h) rfl hdg (kk H locs ls hl hP hS)
theorem p_7_90 {g : fkG} {k : fkK} {ρ : Type} {en : ρ → Option Value} {cc : ByteArray} {nL fr lo pc : Nat} {ret : Option FieldType} {lv : List (Nat × Value)} {stk : List Value} {st : fkS} (hk : fk_ok wC g k RX7 cc nL ret fr lo) {i : Nat} {v : Int32} {F1 : fkS → Option (ρ × fkS)} (hi : kdC i = 5) (hdg : decode cc pc = .ok (.putfield 90, 3))
    (kk : ∀ st1, fk_J wC g en k (pc + 3) lv stk st1 (F1 st1)) : fk_J wC g en k pc lv (.int v :: fk_r g i :: stk) st (fk_let (sI st 103 i v) F1) := by
  intro o ho hq
  have kk := kk (sI st 103 i v) o ho hq
  obtain ⟨p, l, e, R, s, m, args, below, meth, c, rv, sf⟩ := k
  obtain ⟨hx, hb, hml, hown, hts, hK, hE, hr, hlk, hinj, hfr, hlo⟩ := hk
  intro H locs ls hl hP hS
  refine va_putN (D := g.2.1) (ci := 5) (C := RX5) (T := TX5) (N := 5) (v := .int v) (ty := .int) hx hb hts wB_5 tyX5 tyX5_ok nmX5 hown hK hP (fk_wD hinj _ _) hS i (wat_5 hi) rfl 3 (by decide) (va_Nw.use rfl (hE.1 _ wf_7_90)) (fun _ h => h) rfl (by decide +kernel) rfl rfl (Nat.le_of_ble_eq_true rfl) hdg (fun H1 locs1 hP1 hD1 hS1 => kk H1 locs1 ls hl ?_ hS1)
  rw [← wst_5_3 hi]
  exact hP1
theorem wf_6_90 : Cond.fieldLinkNest RX6 90 "PieFunnels$Shelf" "size" "I" "PieFunnels" ∈ fk_nests := List.mem_of_getElem? (i := 45) (by decide +kernel)
theorem f_6_90 {g : fkG} {k : fkK} {ρ : Type} {en : ρ → Option Value} {cc : ByteArray} {nL fr lo pc : Nat} {ret : Option FieldType} {lv : List (Nat × Value)} {stk : List Value} {st : fkS} (hk : fk_ok wC g k RX6 cc nL ret fr lo) {i : Nat} {F1 : Int32 → Option (ρ × fkS)} (hi : kdC i = 5) (hdg : decode cc pc = .ok (.getfield 90, 3))
    (kk : ∀ x, fk_J wC g en k (pc + 3) lv (.int x :: stk) st (F1 x)) : fk_J wC g en k pc lv (fk_r g i :: stk) st (fk_let (gI st 103 i) F1) := by
  intro o ho hq
  have kk := kk (gI st 103 i) o ho hq
  obtain ⟨p, l, e, R, s, m, args, below, meth, c, rv, sf⟩ := k
  obtain ⟨hx, hb, hml, hown, hts, hK, hE, hr, hlk, hinj, hfr, hlo⟩ := hk
  intro H locs ls hl hP hS
  exact va_getN (D := g.2.1) (ci := 5) (C := RX5) (T := TX5) (N := 5) (v := .int (gI st 103 i)) hx hb hts wB_5 hown hK hP i (wat_5 hi) rfl 3 (by decide) (va_Nw.use rfl (hE.1 _ wf_6_90)) (fun _ h => h) rfl hdg (kk H locs ls hl hP hS)
theorem p_6_90 {g : fkG} {k : fkK} {ρ : Type} {en : ρ → Option Value} {cc : ByteArray} {nL fr lo pc : Nat} {ret : Option FieldType} {lv : List (Nat × Value)} {stk : List Value} {st : fkS} (hk : fk_ok wC g k RX6 cc nL ret fr lo) {i : Nat} {v : Int32} {F1 : fkS → Option (ρ × fkS)} (hi : kdC i = 5) (hdg : decode cc pc = .ok (.putfield 90, 3))
    (kk : ∀ st1, fk_J wC g en k (pc + 3) lv stk st1 (F1 st1)) : fk_J wC g en k pc lv (.int v :: fk_r g i :: stk) st (fk_let (sI st 103 i v) F1) := by
  intro o ho hq
  have kk := kk (sI st 103 i v) o ho hq
  obtain ⟨p, l, e, R, s, m, args, below, meth, c, rv, sf⟩ := k
  obtain ⟨hx, hb, hml, hown, hts, hK, hE, hr, hlk, hinj, hfr, hlo⟩ := hk
  intro H locs ls hl hP hS
  refine va_putN (D := g.2.1) (ci := 5) (C := RX5) (T := TX5) (N := 5) (v := .int v) (ty := .int) hx hb hts wB_5 tyX5 tyX5_ok nmX5 hown hK hP (fk_wD hinj _ _) hS i (wat_5 hi) rfl 3 (by decide) (va_Nw.use rfl (hE.1 _ wf_6_90)) (fun _ h => h) rfl (by decide +kernel) rfl rfl (Nat.le_of_ble_eq_true rfl) hdg (fun H1 locs1 hP1 hD1 hS1 => kk H1 locs1 ls hl ?_ hS1)
  rw [← wst_5_3 hi]
  exact hP1
theorem wf_5_24 : Cond.fieldLink RX5 24 "PieFunnels$Shelf" "cells" "[J" ∈ fkB := fkB_in (List.mem_of_getElem? (i := 326) (by decide +kernel)) rfl
theorem f_5_24 {g : fkG} {k : fkK} {ρ : Type} {en : ρ → Option Value} {cc : ByteArray} {nL fr lo pc : Nat} {ret : Option FieldType} {lv : List (Nat × Value)} {stk : List Value} {st : fkS} {F : Option (ρ × fkS)} (hk : fk_ok wC g k RX5 cc nL ret fr lo) {i : Nat} (hi : kdC i = 5) (hdg : decode cc pc = .ok (.getfield 24, 3))
    (kk : fk_J wC g en k (pc + 3) lv (fk_r g (i + 8) :: stk) st F) : fk_J wC g en k pc lv (fk_r g i :: stk) st F := by
  intro o ho hq
  have kk := kk o ho hq
  obtain ⟨p, l, e, R, s, m, args, below, meth, c, rv, sf⟩ := k
  obtain ⟨hx, hb, hml, hown, hts, hK, hE, hr, hlk, hinj, hfr, hlo⟩ := hk
  intro H locs ls hl hP hS
  exact va_get (D := g.2.1) (ci := 5) (C := RX5) (T := TX5) (N := 5) (v := fk_r g (i + 8)) hx hb hts wB_5 hown hK hP i (wat_5 hi) rfl 4 (by decide) (hts _ wf_5_24) (fun _ h => h) rfl hdg (kk H locs ls hl hP hS)
theorem wf_7_109 : Cond.fieldLinkNest RX7 109 "PieFunnels$Shelf" "cells" "[J" "PieFunnels" ∈ fk_nests := List.mem_of_getElem? (i := 46) (by decide +kernel)
theorem f_7_109 {g : fkG} {k : fkK} {ρ : Type} {en : ρ → Option Value} {cc : ByteArray} {nL fr lo pc : Nat} {ret : Option FieldType} {lv : List (Nat × Value)} {stk : List Value} {st : fkS} {F : Option (ρ × fkS)} (hk : fk_ok wC g k RX7 cc nL ret fr lo) {i : Nat} (hi : kdC i = 5) (hdg : decode cc pc = .ok (.getfield 109, 3))
    (kk : fk_J wC g en k (pc + 3) lv (fk_r g (i + 8) :: stk) st F) : fk_J wC g en k pc lv (fk_r g i :: stk) st F := by
  intro o ho hq
  have kk := kk o ho hq
  obtain ⟨p, l, e, R, s, m, args, below, meth, c, rv, sf⟩ := k
  obtain ⟨hx, hb, hml, hown, hts, hK, hE, hr, hlk, hinj, hfr, hlo⟩ := hk
  intro H locs ls hl hP hS
  exact va_getN (D := g.2.1) (ci := 5) (C := RX5) (T := TX5) (N := 5) (v := fk_r g (i + 8)) hx hb hts wB_5 hown hK hP i (wat_5 hi) rfl 4 (by decide) (va_Nw.use rfl (hE.1 _ wf_7_109)) (fun _ h => h) rfl hdg (kk H locs ls hl hP hS)
theorem wf_4_115 : Cond.fieldLinkNest RX4 115 "PieFunnels$Shelf" "cells" "[J" "PieFunnels" ∈ fk_nests := List.mem_of_getElem? (i := 47) (by decide +kernel)
theorem f_4_115 {g : fkG} {k : fkK} {ρ : Type} {en : ρ → Option Value} {cc : ByteArray} {nL fr lo pc : Nat} {ret : Option FieldType} {lv : List (Nat × Value)} {stk : List Value} {st : fkS} {F : Option (ρ × fkS)} (hk : fk_ok wC g k RX4 cc nL ret fr lo) {i : Nat} (hi : kdC i = 5) (hdg : decode cc pc = .ok (.getfield 115, 3))
    (kk : fk_J wC g en k (pc + 3) lv (fk_r g (i + 8) :: stk) st F) : fk_J wC g en k pc lv (fk_r g i :: stk) st F := by
  intro o ho hq
  have kk := kk o ho hq
  obtain ⟨p, l, e, R, s, m, args, below, meth, c, rv, sf⟩ := k
  obtain ⟨hx, hb, hml, hown, hts, hK, hE, hr, hlk, hinj, hfr, hlo⟩ := hk
  intro H locs ls hl hP hS
  exact va_getN (D := g.2.1) (ci := 5) (C := RX5) (T := TX5) (N := 5) (v := fk_r g (i + 8)) hx hb hts wB_5 hown hK hP i (wat_5 hi) rfl 4 (by decide) (va_Nw.use rfl (hE.1 _ wf_4_115)) (fun _ h => h) rfl hdg (kk H locs ls hl hP hS)
theorem wf_7_11 : Cond.fieldLink RX7 11 "PieFunnels" "shelves" "[LPieFunnels$Shelf;" ∈ fkB := fkB_in (List.mem_of_getElem? (i := 341) (by decide +kernel)) rfl
theorem f_7_11 {g : fkG} {k : fkK} {ρ : Type} {en : ρ → Option Value} {cc : ByteArray} {nL fr lo pc : Nat} {ret : Option FieldType} {lv : List (Nat × Value)} {stk : List Value} {st : fkS} {F : Option (ρ × fkS)} (hk : fk_ok wC g k RX7 cc nL ret fr lo) {i : Nat} (hi : kdC i = 7) (hdg : decode cc pc = .ok (.getfield 11, 3))
    (kk : fk_J wC g en k (pc + 3) lv (fk_r g 2 :: stk) st F) : fk_J wC g en k pc lv (fk_r g i :: stk) st F := by
  intro o ho hq
  have kk := kk o ho hq
  obtain ⟨p, l, e, R, s, m, args, below, meth, c, rv, sf⟩ := k
  obtain ⟨hx, hb, hml, hown, hts, hK, hE, hr, hlk, hinj, hfr, hlo⟩ := hk
  intro H locs ls hl hP hS
  exact va_get (D := g.2.1) (ci := 7) (C := RX7) (T := TX7) (N := 12) (v := fk_r g 2) hx hb hts wB_7 hown hK hP i (wat_7 hi) rfl 0 (by decide) (hts _ wf_7_11) (fun _ h => h) rfl hdg (kk H locs ls hl hP hS)
theorem wf_7_18 : Cond.fieldLink RX7 18 "PieFunnels" "bakery" "LPieFunnels$Bakery;" ∈ fkB := fkB_in (List.mem_of_getElem? (i := 342) (by decide +kernel)) rfl
theorem f_7_18 {g : fkG} {k : fkK} {ρ : Type} {en : ρ → Option Value} {cc : ByteArray} {nL fr lo pc : Nat} {ret : Option FieldType} {lv : List (Nat × Value)} {stk : List Value} {st : fkS} {F : Option (ρ × fkS)} (hk : fk_ok wC g k RX7 cc nL ret fr lo) {i : Nat} (hi : kdC i = 7) (hdg : decode cc pc = .ok (.getfield 18, 3))
    (kk : fk_J wC g en k (pc + 3) lv (fk_r g 19 :: stk) st F) : fk_J wC g en k pc lv (fk_r g i :: stk) st F := by
  intro o ho hq
  have kk := kk o ho hq
  obtain ⟨p, l, e, R, s, m, args, below, meth, c, rv, sf⟩ := k
  obtain ⟨hx, hb, hml, hown, hts, hK, hE, hr, hlk, hinj, hfr, hlo⟩ := hk
  intro H locs ls hl hP hS
  exact va_get (D := g.2.1) (ci := 7) (C := RX7) (T := TX7) (N := 12) (v := fk_r g 19) hx hb hts wB_7 hown hK hP i (wat_7 hi) rfl 1 (by decide) (hts _ wf_7_18) (fun _ h => h) rfl hdg (kk H locs ls hl hP hS)
theorem wf_7_22 : Cond.fieldLink RX7 22 "PieFunnels" "draft" "LPieFunnels$Bakery;" ∈ fkB := fkB_in (List.mem_of_getElem? (i := 343) (by decide +kernel)) rfl
theorem f_7_22 {g : fkG} {k : fkK} {ρ : Type} {en : ρ → Option Value} {cc : ByteArray} {nL fr lo pc : Nat} {ret : Option FieldType} {lv : List (Nat × Value)} {stk : List Value} {st : fkS} {F : Option (ρ × fkS)} (hk : fk_ok wC g k RX7 cc nL ret fr lo) {i : Nat} (hi : kdC i = 7) (hdg : decode cc pc = .ok (.getfield 22, 3))
    (kk : fk_J wC g en k (pc + 3) lv (fk_r g 20 :: stk) st F) : fk_J wC g en k pc lv (fk_r g i :: stk) st F := by
  intro o ho hq
  have kk := kk o ho hq
  obtain ⟨p, l, e, R, s, m, args, below, meth, c, rv, sf⟩ := k
  obtain ⟨hx, hb, hml, hown, hts, hK, hE, hr, hlk, hinj, hfr, hlo⟩ := hk
  intro H locs ls hl hP hS
  exact va_get (D := g.2.1) (ci := 7) (C := RX7) (T := TX7) (N := 12) (v := fk_r g 20) hx hb hts wB_7 hown hK hP i (wat_7 hi) rfl 2 (by decide) (hts _ wf_7_22) (fun _ h => h) rfl hdg (kk H locs ls hl hP hS)
theorem wf_7_25 : Cond.fieldLink RX7 25 "PieFunnels" "kept" "LPieFunnels$Bakery;" ∈ fkB := fkB_in (List.mem_of_getElem? (i := 344) (by decide +kernel)) rfl
theorem f_7_25 {g : fkG} {k : fkK} {ρ : Type} {en : ρ → Option Value} {cc : ByteArray} {nL fr lo pc : Nat} {ret : Option FieldType} {lv : List (Nat × Value)} {stk : List Value} {st : fkS} {F : Option (ρ × fkS)} (hk : fk_ok wC g k RX7 cc nL ret fr lo) {i : Nat} (hi : kdC i = 7) (hdg : decode cc pc = .ok (.getfield 25, 3))
    (kk : fk_J wC g en k (pc + 3) lv (fk_r g 21 :: stk) st F) : fk_J wC g en k pc lv (fk_r g i :: stk) st F := by
  intro o ho hq
  have kk := kk o ho hq
  obtain ⟨p, l, e, R, s, m, args, below, meth, c, rv, sf⟩ := k
  obtain ⟨hx, hb, hml, hown, hts, hK, hE, hr, hlk, hinj, hfr, hlo⟩ := hk
  intro H locs ls hl hP hS
  exact va_get (D := g.2.1) (ci := 7) (C := RX7) (T := TX7) (N := 12) (v := fk_r g 21) hx hb hts wB_7 hown hK hP i (wat_7 hi) rfl 3 (by decide) (hts _ wf_7_25) (fun _ h => h) rfl hdg (kk H locs ls hl hP hS)
theorem wf_7_28 : Cond.fieldLink RX7 28 "PieFunnels" "anyKept" "Z" ∈ fkB := fkB_in (List.mem_of_getElem? (i := 345) (by decide +kernel)) rfl
theorem f_7_28 {g : fkG} {k : fkK} {ρ : Type} {en : ρ → Option Value} {cc : ByteArray} {nL fr lo pc : Nat} {ret : Option FieldType} {lv : List (Nat × Value)} {stk : List Value} {st : fkS} (hk : fk_ok wC g k RX7 cc nL ret fr lo) {i : Nat} {F1 : Int32 → Option (ρ × fkS)} (hi : kdC i = 7) (hdg : decode cc pc = .ok (.getfield 28, 3))
    (kk : ∀ x, fk_J wC g en k (pc + 3) lv (.int x :: stk) st (F1 x)) : fk_J wC g en k pc lv (fk_r g i :: stk) st (fk_let (gI st 144 i) F1) := by
  intro o ho hq
  have kk := kk (gI st 144 i) o ho hq
  obtain ⟨p, l, e, R, s, m, args, below, meth, c, rv, sf⟩ := k
  obtain ⟨hx, hb, hml, hown, hts, hK, hE, hr, hlk, hinj, hfr, hlo⟩ := hk
  intro H locs ls hl hP hS
  exact va_get (D := g.2.1) (ci := 7) (C := RX7) (T := TX7) (N := 12) (v := .int (gI st 144 i)) hx hb hts wB_7 hown hK hP i (wat_7 hi) rfl 4 (by decide) (hts _ wf_7_28) (fun _ h => h) rfl hdg (kk H locs ls hl hP hS)
theorem p_7_28 {g : fkG} {k : fkK} {ρ : Type} {en : ρ → Option Value} {cc : ByteArray} {nL fr lo pc : Nat} {ret : Option FieldType} {lv : List (Nat × Value)} {stk : List Value} {st : fkS} (hk : fk_ok wC g k RX7 cc nL ret fr lo) {i : Nat} {v : Int32} {F1 : fkS → Option (ρ × fkS)} (hi : kdC i = 7) (hn : narrow .boolean (.int v) = .int v) (hft : fits .boolean (.int v) = true) (hdg : decode cc pc = .ok (.putfield 28, 3))
    (kk : ∀ st1, fk_J wC g en k (pc + 3) lv stk st1 (F1 st1)) : fk_J wC g en k pc lv (.int v :: fk_r g i :: stk) st (fk_let (sI st 144 i v) F1) := by
  intro o ho hq
  have kk := kk (sI st 144 i v) o ho hq
  obtain ⟨p, l, e, R, s, m, args, below, meth, c, rv, sf⟩ := k
  obtain ⟨hx, hb, hml, hown, hts, hK, hE, hr, hlk, hinj, hfr, hlo⟩ := hk
  intro H locs ls hl hP hS
  refine va_put (D := g.2.1) (ci := 7) (C := RX7) (T := TX7) (N := 12) (v := .int v) (ty := .boolean) hx hb hts wB_7 tyX7 tyX7_ok nmX7 hown hK hP (fk_wD hinj _ _) hS i (wat_7 hi) rfl 4 (by decide) (hts _ wf_7_28) (fun _ h => h) rfl (by decide +kernel) hn hft (Nat.le_of_ble_eq_true rfl) hdg (fun H1 locs1 hP1 hD1 hS1 => kk H1 locs1 ls hl ?_ hS1)
  rw [← wst_7_4 hi]
  exact hP1
theorem wf_7_35 : Cond.fieldLink RX7 35 "PieFunnels" "reader" "LPieFunnels$Reader;" ∈ fkB := fkB_in (List.mem_of_getElem? (i := 346) (by decide +kernel)) rfl
theorem f_7_35 {g : fkG} {k : fkK} {ρ : Type} {en : ρ → Option Value} {cc : ByteArray} {nL fr lo pc : Nat} {ret : Option FieldType} {lv : List (Nat × Value)} {stk : List Value} {st : fkS} {F : Option (ρ × fkS)} (hk : fk_ok wC g k RX7 cc nL ret fr lo) {i : Nat} (hi : kdC i = 7) (hdg : decode cc pc = .ok (.getfield 35, 3))
    (kk : fk_J wC g en k (pc + 3) lv (fk_r g 34 :: stk) st F) : fk_J wC g en k pc lv (fk_r g i :: stk) st F := by
  intro o ho hq
  have kk := kk o ho hq
  obtain ⟨p, l, e, R, s, m, args, below, meth, c, rv, sf⟩ := k
  obtain ⟨hx, hb, hml, hown, hts, hK, hE, hr, hlk, hinj, hfr, hlo⟩ := hk
  intro H locs ls hl hP hS
  exact va_get (D := g.2.1) (ci := 7) (C := RX7) (T := TX7) (N := 12) (v := fk_r g 34) hx hb hts wB_7 hown hK hP i (wat_7 hi) rfl 5 (by decide) (hts _ wf_7_35) (fun _ h => h) rfl hdg (kk H locs ls hl hP hS)
theorem wf_7_42 : Cond.fieldLink RX7 42 "PieFunnels" "moves" "LPieFunnels$Moves;" ∈ fkB := fkB_in (List.mem_of_getElem? (i := 347) (by decide +kernel)) rfl
theorem f_7_42 {g : fkG} {k : fkK} {ρ : Type} {en : ρ → Option Value} {cc : ByteArray} {nL fr lo pc : Nat} {ret : Option FieldType} {lv : List (Nat × Value)} {stk : List Value} {st : fkS} {F : Option (ρ × fkS)} (hk : fk_ok wC g k RX7 cc nL ret fr lo) {i : Nat} (hi : kdC i = 7) (hdg : decode cc pc = .ok (.getfield 42, 3))
    (kk : fk_J wC g en k (pc + 3) lv (fk_r g 36 :: stk) st F) : fk_J wC g en k pc lv (fk_r g i :: stk) st F := by
  intro o ho hq
  have kk := kk o ho hq
  obtain ⟨p, l, e, R, s, m, args, below, meth, c, rv, sf⟩ := k
  obtain ⟨hx, hb, hml, hown, hts, hK, hE, hr, hlk, hinj, hfr, hlo⟩ := hk
  intro H locs ls hl hP hS
  exact va_get (D := g.2.1) (ci := 7) (C := RX7) (T := TX7) (N := 12) (v := fk_r g 36) hx hb hts wB_7 hown hK hP i (wat_7 hi) rfl 6 (by decide) (hts _ wf_7_42) (fun _ h => h) rfl hdg (kk H locs ls hl hP hS)
theorem wf_7_49 : Cond.fieldLink RX7 49 "PieFunnels" "pie" "LPieFunnels$Pie;" ∈ fkB := fkB_in (List.mem_of_getElem? (i := 348) (by decide +kernel)) rfl
theorem f_7_49 {g : fkG} {k : fkK} {ρ : Type} {en : ρ → Option Value} {cc : ByteArray} {nL fr lo pc : Nat} {ret : Option FieldType} {lv : List (Nat × Value)} {stk : List Value} {st : fkS} {F : Option (ρ × fkS)} (hk : fk_ok wC g k RX7 cc nL ret fr lo) {i : Nat} (hi : kdC i = 7) (hdg : decode cc pc = .ok (.getfield 49, 3))
    (kk : fk_J wC g en k (pc + 3) lv (fk_r g 38 :: stk) st F) : fk_J wC g en k pc lv (fk_r g i :: stk) st F := by
  intro o ho hq
  have kk := kk o ho hq
  obtain ⟨p, l, e, R, s, m, args, below, meth, c, rv, sf⟩ := k
  obtain ⟨hx, hb, hml, hown, hts, hK, hE, hr, hlk, hinj, hfr, hlo⟩ := hk
  intro H locs ls hl hP hS
  exact va_get (D := g.2.1) (ci := 7) (C := RX7) (T := TX7) (N := 12) (v := fk_r g 38) hx hb hts wB_7 hown hK hP i (wat_7 hi) rfl 7 (by decide) (hts _ wf_7_49) (fun _ h => h) rfl hdg (kk H locs ls hl hP hS)
theorem wf_7_56 : Cond.fieldLink RX7 56 "PieFunnels" "voice" "LPieFunnels$Voice;" ∈ fkB := fkB_in (List.mem_of_getElem? (i := 349) (by decide +kernel)) rfl
theorem f_7_56 {g : fkG} {k : fkK} {ρ : Type} {en : ρ → Option Value} {cc : ByteArray} {nL fr lo pc : Nat} {ret : Option FieldType} {lv : List (Nat × Value)} {stk : List Value} {st : fkS} {F : Option (ρ × fkS)} (hk : fk_ok wC g k RX7 cc nL ret fr lo) {i : Nat} (hi : kdC i = 7) (hdg : decode cc pc = .ok (.getfield 56, 3))
    (kk : fk_J wC g en k (pc + 3) lv (fk_r g 40 :: stk) st F) : fk_J wC g en k pc lv (fk_r g i :: stk) st F := by
  intro o ho hq
  have kk := kk o ho hq
  obtain ⟨p, l, e, R, s, m, args, below, meth, c, rv, sf⟩ := k
  obtain ⟨hx, hb, hml, hown, hts, hK, hE, hr, hlk, hinj, hfr, hlo⟩ := hk
  intro H locs ls hl hP hS
  exact va_get (D := g.2.1) (ci := 7) (C := RX7) (T := TX7) (N := 12) (v := fk_r g 40) hx hb hts wB_7 hown hK hP i (wat_7 hi) rfl 8 (by decide) (hts _ wf_7_56) (fun _ h => h) rfl hdg (kk H locs ls hl hP hS)
theorem wf_7_60 : Cond.fieldLink RX7 60 "PieFunnels" "second" "LPieFunnels$Voice;" ∈ fkB := fkB_in (List.mem_of_getElem? (i := 350) (by decide +kernel)) rfl
theorem f_7_60 {g : fkG} {k : fkK} {ρ : Type} {en : ρ → Option Value} {cc : ByteArray} {nL fr lo pc : Nat} {ret : Option FieldType} {lv : List (Nat × Value)} {stk : List Value} {st : fkS} {F : Option (ρ × fkS)} (hk : fk_ok wC g k RX7 cc nL ret fr lo) {i : Nat} (hi : kdC i = 7) (hdg : decode cc pc = .ok (.getfield 60, 3))
    (kk : fk_J wC g en k (pc + 3) lv (fk_r g 41 :: stk) st F) : fk_J wC g en k pc lv (fk_r g i :: stk) st F := by
  intro o ho hq
  have kk := kk o ho hq
  obtain ⟨p, l, e, R, s, m, args, below, meth, c, rv, sf⟩ := k
  obtain ⟨hx, hb, hml, hown, hts, hK, hE, hr, hlk, hinj, hfr, hlo⟩ := hk
  intro H locs ls hl hP hS
  exact va_get (D := g.2.1) (ci := 7) (C := RX7) (T := TX7) (N := 12) (v := fk_r g 41) hx hb hts wB_7 hown hK hP i (wat_7 hi) rfl 9 (by decide) (hts _ wf_7_60) (fun _ h => h) rfl hdg (kk H locs ls hl hP hS)
theorem wf_7_66 : Cond.fieldLink RX7 66 "PieFunnels" "parting" "LPieFunnels$Parting;" ∈ fkB := fkB_in (List.mem_of_getElem? (i := 351) (by decide +kernel)) rfl
theorem f_7_66 {g : fkG} {k : fkK} {ρ : Type} {en : ρ → Option Value} {cc : ByteArray} {nL fr lo pc : Nat} {ret : Option FieldType} {lv : List (Nat × Value)} {stk : List Value} {st : fkS} {F : Option (ρ × fkS)} (hk : fk_ok wC g k RX7 cc nL ret fr lo) {i : Nat} (hi : kdC i = 7) (hdg : decode cc pc = .ok (.getfield 66, 3))
    (kk : fk_J wC g en k (pc + 3) lv (fk_r g 44 :: stk) st F) : fk_J wC g en k pc lv (fk_r g i :: stk) st F := by
  intro o ho hq
  have kk := kk o ho hq
  obtain ⟨p, l, e, R, s, m, args, below, meth, c, rv, sf⟩ := k
  obtain ⟨hx, hb, hml, hown, hts, hK, hE, hr, hlk, hinj, hfr, hlo⟩ := hk
  intro H locs ls hl hP hS
  exact va_get (D := g.2.1) (ci := 7) (C := RX7) (T := TX7) (N := 12) (v := fk_r g 44) hx hb hts wB_7 hown hK hP i (wat_7 hi) rfl 10 (by decide) (hts _ wf_7_66) (fun _ h => h) rfl hdg (kk H locs ls hl hP hS)
theorem wf_7_70 : Cond.fieldLink RX7 70 "PieFunnels" "refusals" "[I" ∈ fkB := fkB_in (List.mem_of_getElem? (i := 352) (by decide +kernel)) rfl
theorem f_7_70 {g : fkG} {k : fkK} {ρ : Type} {en : ρ → Option Value} {cc : ByteArray} {nL fr lo pc : Nat} {ret : Option FieldType} {lv : List (Nat × Value)} {stk : List Value} {st : fkS} {F : Option (ρ × fkS)} (hk : fk_ok wC g k RX7 cc nL ret fr lo) {i : Nat} (hi : kdC i = 7) (hdg : decode cc pc = .ok (.getfield 70, 3))
    (kk : fk_J wC g en k (pc + 3) lv (fk_r g 1 :: stk) st F) : fk_J wC g en k pc lv (fk_r g i :: stk) st F := by
  intro o ho hq
  have kk := kk o ho hq
  obtain ⟨p, l, e, R, s, m, args, below, meth, c, rv, sf⟩ := k
  obtain ⟨hx, hb, hml, hown, hts, hK, hE, hr, hlk, hinj, hfr, hlo⟩ := hk
  intro H locs ls hl hP hS
  exact va_get (D := g.2.1) (ci := 7) (C := RX7) (T := TX7) (N := 12) (v := fk_r g 1) hx hb hts wB_7 hown hK hP i (wat_7 hi) rfl 11 (by decide) (hts _ wf_7_70) (fun _ h => h) rfl hdg (kk H locs ls hl hP hS)
theorem wf_8_85 : Cond.fieldLink RX8 85 "PieFunnelsModel" "birds" "I" ∈ fkB := fkB_in (List.mem_of_getElem? (i := 896) (by decide +kernel)) rfl
theorem f_8_85 {g : fkG} {k : fkK} {ρ : Type} {en : ρ → Option Value} {cc : ByteArray} {nL fr lo pc : Nat} {ret : Option FieldType} {lv : List (Nat × Value)} {stk : List Value} {st : fkS} (hk : fk_ok wM g k RX8 cc nL ret fr lo) {i : Nat} {F1 : Int32 → Option (ρ × fkS)} (hi : kdM i = 8) (hdg : decode cc pc = .ok (.getfield 85, 3))
    (kk : ∀ x, fk_J wM g en k (pc + 3) lv (.int x :: stk) st (F1 x)) : fk_J wM g en k pc lv (fk_r g i :: stk) st (fk_let (gI st 0 i) F1) := by
  intro o ho hq
  have kk := kk (gI st 0 i) o ho hq
  obtain ⟨p, l, e, R, s, m, args, below, meth, c, rv, sf⟩ := k
  obtain ⟨hx, hb, hml, hown, hts, hK, hE, hr, hlk, hinj, hfr, hlo⟩ := hk
  intro H locs ls hl hP hS
  exact va_get (D := g.2.1) (ci := 8) (C := RX8) (T := TX8) (N := 37) (v := .int (gI st 0 i)) hx hb hts wB_8 hown hK hP i (wat_8 hi) rfl 0 (by decide) (hts _ wf_8_85) (fun _ h => h) rfl hdg (kk H locs ls hl hP hS)
theorem p_8_85 {g : fkG} {k : fkK} {ρ : Type} {en : ρ → Option Value} {cc : ByteArray} {nL fr lo pc : Nat} {ret : Option FieldType} {lv : List (Nat × Value)} {stk : List Value} {st : fkS} (hk : fk_ok wM g k RX8 cc nL ret fr lo) {i : Nat} {v : Int32} {F1 : fkS → Option (ρ × fkS)} (hi : kdM i = 8) (hdg : decode cc pc = .ok (.putfield 85, 3))
    (kk : ∀ st1, fk_J wM g en k (pc + 3) lv stk st1 (F1 st1)) : fk_J wM g en k pc lv (.int v :: fk_r g i :: stk) st (fk_let (sI st 0 i v) F1) := by
  intro o ho hq
  have kk := kk (sI st 0 i v) o ho hq
  obtain ⟨p, l, e, R, s, m, args, below, meth, c, rv, sf⟩ := k
  obtain ⟨hx, hb, hml, hown, hts, hK, hE, hr, hlk, hinj, hfr, hlo⟩ := hk
  intro H locs ls hl hP hS
  refine va_put (D := g.2.1) (ci := 8) (C := RX8) (T := TX8) (N := 37) (v := .int v) (ty := .int) hx hb hts wB_8 tyX8 tyX8_ok nmX8 hown hK hP (fk_wD hinj _ _) hS i (wat_8 hi) rfl 0 (by decide) (hts _ wf_8_85) (fun _ h => h) rfl (by decide +kernel) rfl rfl (Nat.le_of_ble_eq_true rfl) hdg (fun H1 locs1 hP1 hD1 hS1 => kk H1 locs1 ls hl ?_ hS1)
  rw [← wst_8_0 hi]
  exact hP1
theorem wf_8_7 : Cond.fieldLink RX8 7 "PieFunnelsModel" "kind" "[I" ∈ fkB := fkB_in (List.mem_of_getElem? (i := 897) (by decide +kernel)) rfl
theorem f_8_7 {g : fkG} {k : fkK} {ρ : Type} {en : ρ → Option Value} {cc : ByteArray} {nL fr lo pc : Nat} {ret : Option FieldType} {lv : List (Nat × Value)} {stk : List Value} {st : fkS} {F : Option (ρ × fkS)} (hk : fk_ok wM g k RX8 cc nL ret fr lo) {i : Nat} (hi : kdM i = 8) (hdg : decode cc pc = .ok (.getfield 7, 3))
    (kk : fk_J wM g en k (pc + 3) lv (fk_r g 1 :: stk) st F) : fk_J wM g en k pc lv (fk_r g i :: stk) st F := by
  intro o ho hq
  have kk := kk o ho hq
  obtain ⟨p, l, e, R, s, m, args, below, meth, c, rv, sf⟩ := k
  obtain ⟨hx, hb, hml, hown, hts, hK, hE, hr, hlk, hinj, hfr, hlo⟩ := hk
  intro H locs ls hl hP hS
  exact va_get (D := g.2.1) (ci := 8) (C := RX8) (T := TX8) (N := 37) (v := fk_r g 1) hx hb hts wB_8 hown hK hP i (wat_8 hi) rfl 1 (by decide) (hts _ wf_8_7) (fun _ h => h) rfl hdg (kk H locs ls hl hP hS)
theorem wf_8_13 : Cond.fieldLink RX8 13 "PieFunnelsModel" "a" "[I" ∈ fkB := fkB_in (List.mem_of_getElem? (i := 898) (by decide +kernel)) rfl
theorem f_8_13 {g : fkG} {k : fkK} {ρ : Type} {en : ρ → Option Value} {cc : ByteArray} {nL fr lo pc : Nat} {ret : Option FieldType} {lv : List (Nat × Value)} {stk : List Value} {st : fkS} {F : Option (ρ × fkS)} (hk : fk_ok wM g k RX8 cc nL ret fr lo) {i : Nat} (hi : kdM i = 8) (hdg : decode cc pc = .ok (.getfield 13, 3))
    (kk : fk_J wM g en k (pc + 3) lv (fk_r g 2 :: stk) st F) : fk_J wM g en k pc lv (fk_r g i :: stk) st F := by
  intro o ho hq
  have kk := kk o ho hq
  obtain ⟨p, l, e, R, s, m, args, below, meth, c, rv, sf⟩ := k
  obtain ⟨hx, hb, hml, hown, hts, hK, hE, hr, hlk, hinj, hfr, hlo⟩ := hk
  intro H locs ls hl hP hS
  exact va_get (D := g.2.1) (ci := 8) (C := RX8) (T := TX8) (N := 37) (v := fk_r g 2) hx hb hts wB_8 hown hK hP i (wat_8 hi) rfl 2 (by decide) (hts _ wf_8_13) (fun _ h => h) rfl hdg (kk H locs ls hl hP hS)
theorem wf_8_16 : Cond.fieldLink RX8 16 "PieFunnelsModel" "mouth" "[I" ∈ fkB := fkB_in (List.mem_of_getElem? (i := 899) (by decide +kernel)) rfl
theorem f_8_16 {g : fkG} {k : fkK} {ρ : Type} {en : ρ → Option Value} {cc : ByteArray} {nL fr lo pc : Nat} {ret : Option FieldType} {lv : List (Nat × Value)} {stk : List Value} {st : fkS} {F : Option (ρ × fkS)} (hk : fk_ok wM g k RX8 cc nL ret fr lo) {i : Nat} (hi : kdM i = 8) (hdg : decode cc pc = .ok (.getfield 16, 3))
    (kk : fk_J wM g en k (pc + 3) lv (fk_r g 3 :: stk) st F) : fk_J wM g en k pc lv (fk_r g i :: stk) st F := by
  intro o ho hq
  have kk := kk o ho hq
  obtain ⟨p, l, e, R, s, m, args, below, meth, c, rv, sf⟩ := k
  obtain ⟨hx, hb, hml, hown, hts, hK, hE, hr, hlk, hinj, hfr, hlo⟩ := hk
  intro H locs ls hl hP hS
  exact va_get (D := g.2.1) (ci := 8) (C := RX8) (T := TX8) (N := 37) (v := fk_r g 3) hx hb hts wB_8 hown hK hP i (wat_8 hi) rfl 3 (by decide) (hts _ wf_8_16) (fun _ h => h) rfl hdg (kk H locs ls hl hP hS)
theorem wf_8_19 : Cond.fieldLink RX8 19 "PieFunnelsModel" "ways" "[I" ∈ fkB := fkB_in (List.mem_of_getElem? (i := 900) (by decide +kernel)) rfl
theorem f_8_19 {g : fkG} {k : fkK} {ρ : Type} {en : ρ → Option Value} {cc : ByteArray} {nL fr lo pc : Nat} {ret : Option FieldType} {lv : List (Nat × Value)} {stk : List Value} {st : fkS} {F : Option (ρ × fkS)} (hk : fk_ok wM g k RX8 cc nL ret fr lo) {i : Nat} (hi : kdM i = 8) (hdg : decode cc pc = .ok (.getfield 19, 3))
    (kk : fk_J wM g en k (pc + 3) lv (fk_r g 4 :: stk) st F) : fk_J wM g en k pc lv (fk_r g i :: stk) st F := by
  intro o ho hq
  have kk := kk o ho hq
  obtain ⟨p, l, e, R, s, m, args, below, meth, c, rv, sf⟩ := k
  obtain ⟨hx, hb, hml, hown, hts, hK, hE, hr, hlk, hinj, hfr, hlo⟩ := hk
  intro H locs ls hl hP hS
  exact va_get (D := g.2.1) (ci := 8) (C := RX8) (T := TX8) (N := 37) (v := fk_r g 4) hx hb hts wB_8 hown hK hP i (wat_8 hi) rfl 4 (by decide) (hts _ wf_8_19) (fun _ h => h) rfl hdg (kk H locs ls hl hP hS)
theorem wf_8_22 : Cond.fieldLink RX8 22 "PieFunnelsModel" "table" "[I" ∈ fkB := fkB_in (List.mem_of_getElem? (i := 901) (by decide +kernel)) rfl
theorem f_8_22 {g : fkG} {k : fkK} {ρ : Type} {en : ρ → Option Value} {cc : ByteArray} {nL fr lo pc : Nat} {ret : Option FieldType} {lv : List (Nat × Value)} {stk : List Value} {st : fkS} {F : Option (ρ × fkS)} (hk : fk_ok wM g k RX8 cc nL ret fr lo) {i : Nat} (hi : kdM i = 8) (hdg : decode cc pc = .ok (.getfield 22, 3))
    (kk : fk_J wM g en k (pc + 3) lv (fk_r g 5 :: stk) st F) : fk_J wM g en k pc lv (fk_r g i :: stk) st F := by
  intro o ho hq
  have kk := kk o ho hq
  obtain ⟨p, l, e, R, s, m, args, below, meth, c, rv, sf⟩ := k
  obtain ⟨hx, hb, hml, hown, hts, hK, hE, hr, hlk, hinj, hfr, hlo⟩ := hk
  intro H locs ls hl hP hS
  exact va_get (D := g.2.1) (ci := 8) (C := RX8) (T := TX8) (N := 37) (v := fk_r g 5) hx hb hts wB_8 hown hK hP i (wat_8 hi) rfl 5 (by decide) (hts _ wf_8_22) (fun _ h => h) rfl hdg (kk H locs ls hl hP hS)
theorem wf_8_277 : Cond.fieldLink RX8 277 "PieFunnelsModel" "bakes" "I" ∈ fkB := fkB_in (List.mem_of_getElem? (i := 902) (by decide +kernel)) rfl
theorem f_8_277 {g : fkG} {k : fkK} {ρ : Type} {en : ρ → Option Value} {cc : ByteArray} {nL fr lo pc : Nat} {ret : Option FieldType} {lv : List (Nat × Value)} {stk : List Value} {st : fkS} (hk : fk_ok wM g k RX8 cc nL ret fr lo) {i : Nat} {F1 : Int32 → Option (ρ × fkS)} (hi : kdM i = 8) (hdg : decode cc pc = .ok (.getfield 277, 3))
    (kk : ∀ x, fk_J wM g en k (pc + 3) lv (.int x :: stk) st (F1 x)) : fk_J wM g en k pc lv (fk_r g i :: stk) st (fk_let (gI st 6 i) F1) := by
  intro o ho hq
  have kk := kk (gI st 6 i) o ho hq
  obtain ⟨p, l, e, R, s, m, args, below, meth, c, rv, sf⟩ := k
  obtain ⟨hx, hb, hml, hown, hts, hK, hE, hr, hlk, hinj, hfr, hlo⟩ := hk
  intro H locs ls hl hP hS
  exact va_get (D := g.2.1) (ci := 8) (C := RX8) (T := TX8) (N := 37) (v := .int (gI st 6 i)) hx hb hts wB_8 hown hK hP i (wat_8 hi) rfl 6 (by decide) (hts _ wf_8_277) (fun _ h => h) rfl hdg (kk H locs ls hl hP hS)
theorem p_8_277 {g : fkG} {k : fkK} {ρ : Type} {en : ρ → Option Value} {cc : ByteArray} {nL fr lo pc : Nat} {ret : Option FieldType} {lv : List (Nat × Value)} {stk : List Value} {st : fkS} (hk : fk_ok wM g k RX8 cc nL ret fr lo) {i : Nat} {v : Int32} {F1 : fkS → Option (ρ × fkS)} (hi : kdM i = 8) (hdg : decode cc pc = .ok (.putfield 277, 3))
    (kk : ∀ st1, fk_J wM g en k (pc + 3) lv stk st1 (F1 st1)) : fk_J wM g en k pc lv (.int v :: fk_r g i :: stk) st (fk_let (sI st 6 i v) F1) := by
  intro o ho hq
  have kk := kk (sI st 6 i v) o ho hq
  obtain ⟨p, l, e, R, s, m, args, below, meth, c, rv, sf⟩ := k
  obtain ⟨hx, hb, hml, hown, hts, hK, hE, hr, hlk, hinj, hfr, hlo⟩ := hk
  intro H locs ls hl hP hS
  refine va_put (D := g.2.1) (ci := 8) (C := RX8) (T := TX8) (N := 37) (v := .int v) (ty := .int) hx hb hts wB_8 tyX8 tyX8_ok nmX8 hown hK hP (fk_wD hinj _ _) hS i (wat_8 hi) rfl 6 (by decide) (hts _ wf_8_277) (fun _ h => h) rfl (by decide +kernel) rfl rfl (Nat.le_of_ble_eq_true rfl) hdg (fun H1 locs1 hP1 hD1 hS1 => kk H1 locs1 ls hl ?_ hS1)
  rw [← wst_8_6 hi]
  exact hP1
theorem wf_8_280 : Cond.fieldLink RX8 280 "PieFunnelsModel" "suffered" "I" ∈ fkB := fkB_in (List.mem_of_getElem? (i := 903) (by decide +kernel)) rfl
theorem f_8_280 {g : fkG} {k : fkK} {ρ : Type} {en : ρ → Option Value} {cc : ByteArray} {nL fr lo pc : Nat} {ret : Option FieldType} {lv : List (Nat × Value)} {stk : List Value} {st : fkS} (hk : fk_ok wM g k RX8 cc nL ret fr lo) {i : Nat} {F1 : Int32 → Option (ρ × fkS)} (hi : kdM i = 8) (hdg : decode cc pc = .ok (.getfield 280, 3))
    (kk : ∀ x, fk_J wM g en k (pc + 3) lv (.int x :: stk) st (F1 x)) : fk_J wM g en k pc lv (fk_r g i :: stk) st (fk_let (gI st 7 i) F1) := by
  intro o ho hq
  have kk := kk (gI st 7 i) o ho hq
  obtain ⟨p, l, e, R, s, m, args, below, meth, c, rv, sf⟩ := k
  obtain ⟨hx, hb, hml, hown, hts, hK, hE, hr, hlk, hinj, hfr, hlo⟩ := hk
  intro H locs ls hl hP hS
  exact va_get (D := g.2.1) (ci := 8) (C := RX8) (T := TX8) (N := 37) (v := .int (gI st 7 i)) hx hb hts wB_8 hown hK hP i (wat_8 hi) rfl 7 (by decide) (hts _ wf_8_280) (fun _ h => h) rfl hdg (kk H locs ls hl hP hS)
theorem p_8_280 {g : fkG} {k : fkK} {ρ : Type} {en : ρ → Option Value} {cc : ByteArray} {nL fr lo pc : Nat} {ret : Option FieldType} {lv : List (Nat × Value)} {stk : List Value} {st : fkS} (hk : fk_ok wM g k RX8 cc nL ret fr lo) {i : Nat} {v : Int32} {F1 : fkS → Option (ρ × fkS)} (hi : kdM i = 8) (hdg : decode cc pc = .ok (.putfield 280, 3))
    (kk : ∀ st1, fk_J wM g en k (pc + 3) lv stk st1 (F1 st1)) : fk_J wM g en k pc lv (.int v :: fk_r g i :: stk) st (fk_let (sI st 7 i v) F1) := by
  intro o ho hq
  have kk := kk (sI st 7 i v) o ho hq
  obtain ⟨p, l, e, R, s, m, args, below, meth, c, rv, sf⟩ := k
  obtain ⟨hx, hb, hml, hown, hts, hK, hE, hr, hlk, hinj, hfr, hlo⟩ := hk
  intro H locs ls hl hP hS
  refine va_put (D := g.2.1) (ci := 8) (C := RX8) (T := TX8) (N := 37) (v := .int v) (ty := .int) hx hb hts wB_8 tyX8 tyX8_ok nmX8 hown hK hP (fk_wD hinj _ _) hS i (wat_8 hi) rfl 7 (by decide) (hts _ wf_8_280) (fun _ h => h) rfl (by decide +kernel) rfl rfl (Nat.le_of_ble_eq_true rfl) hdg (fun H1 locs1 hP1 hD1 hS1 => kk H1 locs1 ls hl ?_ hS1)
  rw [← wst_8_7 hi]
  exact hP1
theorem wf_8_74 : Cond.fieldLink RX8 74 "PieFunnelsModel" "seed" "I" ∈ fkB := fkB_in (List.mem_of_getElem? (i := 904) (by decide +kernel)) rfl
theorem f_8_74 {g : fkG} {k : fkK} {ρ : Type} {en : ρ → Option Value} {cc : ByteArray} {nL fr lo pc : Nat} {ret : Option FieldType} {lv : List (Nat × Value)} {stk : List Value} {st : fkS} (hk : fk_ok wM g k RX8 cc nL ret fr lo) {i : Nat} {F1 : Int32 → Option (ρ × fkS)} (hi : kdM i = 8) (hdg : decode cc pc = .ok (.getfield 74, 3))
    (kk : ∀ x, fk_J wM g en k (pc + 3) lv (.int x :: stk) st (F1 x)) : fk_J wM g en k pc lv (fk_r g i :: stk) st (fk_let (gI st 8 i) F1) := by
  intro o ho hq
  have kk := kk (gI st 8 i) o ho hq
  obtain ⟨p, l, e, R, s, m, args, below, meth, c, rv, sf⟩ := k
  obtain ⟨hx, hb, hml, hown, hts, hK, hE, hr, hlk, hinj, hfr, hlo⟩ := hk
  intro H locs ls hl hP hS
  exact va_get (D := g.2.1) (ci := 8) (C := RX8) (T := TX8) (N := 37) (v := .int (gI st 8 i)) hx hb hts wB_8 hown hK hP i (wat_8 hi) rfl 8 (by decide) (hts _ wf_8_74) (fun _ h => h) rfl hdg (kk H locs ls hl hP hS)
theorem p_8_74 {g : fkG} {k : fkK} {ρ : Type} {en : ρ → Option Value} {cc : ByteArray} {nL fr lo pc : Nat} {ret : Option FieldType} {lv : List (Nat × Value)} {stk : List Value} {st : fkS} (hk : fk_ok wM g k RX8 cc nL ret fr lo) {i : Nat} {v : Int32} {F1 : fkS → Option (ρ × fkS)} (hi : kdM i = 8) (hdg : decode cc pc = .ok (.putfield 74, 3))
    (kk : ∀ st1, fk_J wM g en k (pc + 3) lv stk st1 (F1 st1)) : fk_J wM g en k pc lv (.int v :: fk_r g i :: stk) st (fk_let (sI st 8 i v) F1) := by
  intro o ho hq
  have kk := kk (sI st 8 i v) o ho hq
  obtain ⟨p, l, e, R, s, m, args, below, meth, c, rv, sf⟩ := k
  obtain ⟨hx, hb, hml, hown, hts, hK, hE, hr, hlk, hinj, hfr, hlo⟩ := hk
  intro H locs ls hl hP hS
  refine va_put (D := g.2.1) (ci := 8) (C := RX8) (T := TX8) (N := 37) (v := .int v) (ty := .int) hx hb hts wB_8 tyX8 tyX8_ok nmX8 hown hK hP (fk_wD hinj _ _) hS i (wat_8 hi) rfl 8 (by decide) (hts _ wf_8_74) (fun _ h => h) rfl (by decide +kernel) rfl rfl (Nat.le_of_ble_eq_true rfl) hdg (fun H1 locs1 hP1 hD1 hS1 => kk H1 locs1 ls hl ?_ hS1)
  rw [← wst_8_8 hi]
  exact hP1
theorem wf_8_25 : Cond.fieldLink RX8 25 "PieFunnelsModel" "holding" "[I" ∈ fkB := fkB_in (List.mem_of_getElem? (i := 905) (by decide +kernel)) rfl
theorem f_8_25 {g : fkG} {k : fkK} {ρ : Type} {en : ρ → Option Value} {cc : ByteArray} {nL fr lo pc : Nat} {ret : Option FieldType} {lv : List (Nat × Value)} {stk : List Value} {st : fkS} {F : Option (ρ × fkS)} (hk : fk_ok wM g k RX8 cc nL ret fr lo) {i : Nat} (hi : kdM i = 8) (hdg : decode cc pc = .ok (.getfield 25, 3))
    (kk : fk_J wM g en k (pc + 3) lv (fk_r g 6 :: stk) st F) : fk_J wM g en k pc lv (fk_r g i :: stk) st F := by
  intro o ho hq
  have kk := kk o ho hq
  obtain ⟨p, l, e, R, s, m, args, below, meth, c, rv, sf⟩ := k
  obtain ⟨hx, hb, hml, hown, hts, hK, hE, hr, hlk, hinj, hfr, hlo⟩ := hk
  intro H locs ls hl hP hS
  exact va_get (D := g.2.1) (ci := 8) (C := RX8) (T := TX8) (N := 37) (v := fk_r g 6) hx hb hts wB_8 hown hK hP i (wat_8 hi) rfl 9 (by decide) (hts _ wf_8_25) (fun _ h => h) rfl hdg (kk H locs ls hl hP hS)
theorem wf_8_28 : Cond.fieldLink RX8 28 "PieFunnelsModel" "rowLength" "[I" ∈ fkB := fkB_in (List.mem_of_getElem? (i := 906) (by decide +kernel)) rfl
theorem f_8_28 {g : fkG} {k : fkK} {ρ : Type} {en : ρ → Option Value} {cc : ByteArray} {nL fr lo pc : Nat} {ret : Option FieldType} {lv : List (Nat × Value)} {stk : List Value} {st : fkS} {F : Option (ρ × fkS)} (hk : fk_ok wM g k RX8 cc nL ret fr lo) {i : Nat} (hi : kdM i = 8) (hdg : decode cc pc = .ok (.getfield 28, 3))
    (kk : fk_J wM g en k (pc + 3) lv (fk_r g 7 :: stk) st F) : fk_J wM g en k pc lv (fk_r g i :: stk) st F := by
  intro o ho hq
  have kk := kk o ho hq
  obtain ⟨p, l, e, R, s, m, args, below, meth, c, rv, sf⟩ := k
  obtain ⟨hx, hb, hml, hown, hts, hK, hE, hr, hlk, hinj, hfr, hlo⟩ := hk
  intro H locs ls hl hP hS
  exact va_get (D := g.2.1) (ci := 8) (C := RX8) (T := TX8) (N := 37) (v := fk_r g 7) hx hb hts wB_8 hown hK hP i (wat_8 hi) rfl 10 (by decide) (hts _ wf_8_28) (fun _ h => h) rfl hdg (kk H locs ls hl hP hS)
theorem wf_8_31 : Cond.fieldLink RX8 31 "PieFunnelsModel" "rowOf" "[J" ∈ fkB := fkB_in (List.mem_of_getElem? (i := 907) (by decide +kernel)) rfl
theorem f_8_31 {g : fkG} {k : fkK} {ρ : Type} {en : ρ → Option Value} {cc : ByteArray} {nL fr lo pc : Nat} {ret : Option FieldType} {lv : List (Nat × Value)} {stk : List Value} {st : fkS} {F : Option (ρ × fkS)} (hk : fk_ok wM g k RX8 cc nL ret fr lo) {i : Nat} (hi : kdM i = 8) (hdg : decode cc pc = .ok (.getfield 31, 3))
    (kk : fk_J wM g en k (pc + 3) lv (fk_r g 8 :: stk) st F) : fk_J wM g en k pc lv (fk_r g i :: stk) st F := by
  intro o ho hq
  have kk := kk o ho hq
  obtain ⟨p, l, e, R, s, m, args, below, meth, c, rv, sf⟩ := k
  obtain ⟨hx, hb, hml, hown, hts, hK, hE, hr, hlk, hinj, hfr, hlo⟩ := hk
  intro H locs ls hl hP hS
  exact va_get (D := g.2.1) (ci := 8) (C := RX8) (T := TX8) (N := 37) (v := fk_r g 8) hx hb hts wB_8 hown hK hP i (wat_8 hi) rfl 11 (by decide) (hts _ wf_8_31) (fun _ h => h) rfl hdg (kk H locs ls hl hP hS)
theorem wf_8_135 : Cond.fieldLink RX8 135 "PieFunnelsModel" "reading" "I" ∈ fkB := fkB_in (List.mem_of_getElem? (i := 908) (by decide +kernel)) rfl
theorem f_8_135 {g : fkG} {k : fkK} {ρ : Type} {en : ρ → Option Value} {cc : ByteArray} {nL fr lo pc : Nat} {ret : Option FieldType} {lv : List (Nat × Value)} {stk : List Value} {st : fkS} (hk : fk_ok wM g k RX8 cc nL ret fr lo) {i : Nat} {F1 : Int32 → Option (ρ × fkS)} (hi : kdM i = 8) (hdg : decode cc pc = .ok (.getfield 135, 3))
    (kk : ∀ x, fk_J wM g en k (pc + 3) lv (.int x :: stk) st (F1 x)) : fk_J wM g en k pc lv (fk_r g i :: stk) st (fk_let (gI st 12 i) F1) := by
  intro o ho hq
  have kk := kk (gI st 12 i) o ho hq
  obtain ⟨p, l, e, R, s, m, args, below, meth, c, rv, sf⟩ := k
  obtain ⟨hx, hb, hml, hown, hts, hK, hE, hr, hlk, hinj, hfr, hlo⟩ := hk
  intro H locs ls hl hP hS
  exact va_get (D := g.2.1) (ci := 8) (C := RX8) (T := TX8) (N := 37) (v := .int (gI st 12 i)) hx hb hts wB_8 hown hK hP i (wat_8 hi) rfl 12 (by decide) (hts _ wf_8_135) (fun _ h => h) rfl hdg (kk H locs ls hl hP hS)
theorem p_8_135 {g : fkG} {k : fkK} {ρ : Type} {en : ρ → Option Value} {cc : ByteArray} {nL fr lo pc : Nat} {ret : Option FieldType} {lv : List (Nat × Value)} {stk : List Value} {st : fkS} (hk : fk_ok wM g k RX8 cc nL ret fr lo) {i : Nat} {v : Int32} {F1 : fkS → Option (ρ × fkS)} (hi : kdM i = 8) (hdg : decode cc pc = .ok (.putfield 135, 3))
    (kk : ∀ st1, fk_J wM g en k (pc + 3) lv stk st1 (F1 st1)) : fk_J wM g en k pc lv (.int v :: fk_r g i :: stk) st (fk_let (sI st 12 i v) F1) := by
  intro o ho hq
  have kk := kk (sI st 12 i v) o ho hq
  obtain ⟨p, l, e, R, s, m, args, below, meth, c, rv, sf⟩ := k
  obtain ⟨hx, hb, hml, hown, hts, hK, hE, hr, hlk, hinj, hfr, hlo⟩ := hk
  intro H locs ls hl hP hS
  refine va_put (D := g.2.1) (ci := 8) (C := RX8) (T := TX8) (N := 37) (v := .int v) (ty := .int) hx hb hts wB_8 tyX8 tyX8_ok nmX8 hown hK hP (fk_wD hinj _ _) hS i (wat_8 hi) rfl 12 (by decide) (hts _ wf_8_135) (fun _ h => h) rfl (by decide +kernel) rfl rfl (Nat.le_of_ble_eq_true rfl) hdg (fun H1 locs1 hP1 hD1 hS1 => kk H1 locs1 ls hl ?_ hS1)
  rw [← wst_8_12 hi]
  exact hP1
theorem wf_8_132 : Cond.fieldLink RX8 132 "PieFunnelsModel" "at" "I" ∈ fkB := fkB_in (List.mem_of_getElem? (i := 909) (by decide +kernel)) rfl
theorem f_8_132 {g : fkG} {k : fkK} {ρ : Type} {en : ρ → Option Value} {cc : ByteArray} {nL fr lo pc : Nat} {ret : Option FieldType} {lv : List (Nat × Value)} {stk : List Value} {st : fkS} (hk : fk_ok wM g k RX8 cc nL ret fr lo) {i : Nat} {F1 : Int32 → Option (ρ × fkS)} (hi : kdM i = 8) (hdg : decode cc pc = .ok (.getfield 132, 3))
    (kk : ∀ x, fk_J wM g en k (pc + 3) lv (.int x :: stk) st (F1 x)) : fk_J wM g en k pc lv (fk_r g i :: stk) st (fk_let (gI st 13 i) F1) := by
  intro o ho hq
  have kk := kk (gI st 13 i) o ho hq
  obtain ⟨p, l, e, R, s, m, args, below, meth, c, rv, sf⟩ := k
  obtain ⟨hx, hb, hml, hown, hts, hK, hE, hr, hlk, hinj, hfr, hlo⟩ := hk
  intro H locs ls hl hP hS
  exact va_get (D := g.2.1) (ci := 8) (C := RX8) (T := TX8) (N := 37) (v := .int (gI st 13 i)) hx hb hts wB_8 hown hK hP i (wat_8 hi) rfl 13 (by decide) (hts _ wf_8_132) (fun _ h => h) rfl hdg (kk H locs ls hl hP hS)
theorem p_8_132 {g : fkG} {k : fkK} {ρ : Type} {en : ρ → Option Value} {cc : ByteArray} {nL fr lo pc : Nat} {ret : Option FieldType} {lv : List (Nat × Value)} {stk : List Value} {st : fkS} (hk : fk_ok wM g k RX8 cc nL ret fr lo) {i : Nat} {v : Int32} {F1 : fkS → Option (ρ × fkS)} (hi : kdM i = 8) (hdg : decode cc pc = .ok (.putfield 132, 3))
    (kk : ∀ st1, fk_J wM g en k (pc + 3) lv stk st1 (F1 st1)) : fk_J wM g en k pc lv (.int v :: fk_r g i :: stk) st (fk_let (sI st 13 i v) F1) := by
  intro o ho hq
  have kk := kk (sI st 13 i v) o ho hq
  obtain ⟨p, l, e, R, s, m, args, below, meth, c, rv, sf⟩ := k
  obtain ⟨hx, hb, hml, hown, hts, hK, hE, hr, hlk, hinj, hfr, hlo⟩ := hk
  intro H locs ls hl hP hS
  refine va_put (D := g.2.1) (ci := 8) (C := RX8) (T := TX8) (N := 37) (v := .int v) (ty := .int) hx hb hts wB_8 tyX8 tyX8_ok nmX8 hown hK hP (fk_wD hinj _ _) hS i (wat_8 hi) rfl 13 (by decide) (hts _ wf_8_132) (fun _ h => h) rfl (by decide +kernel) rfl rfl (Nat.le_of_ble_eq_true rfl) hdg (fun H1 locs1 hP1 hD1 hS1 => kk H1 locs1 ls hl ?_ hS1)
  rw [← wst_8_13 hi]
  exact hP1
theorem wf_8_35 : Cond.fieldLink RX8 35 "PieFunnelsModel" "numbers" "[I" ∈ fkB := fkB_in (List.mem_of_getElem? (i := 910) (by decide +kernel)) rfl
theorem f_8_35 {g : fkG} {k : fkK} {ρ : Type} {en : ρ → Option Value} {cc : ByteArray} {nL fr lo pc : Nat} {ret : Option FieldType} {lv : List (Nat × Value)} {stk : List Value} {st : fkS} {F : Option (ρ × fkS)} (hk : fk_ok wM g k RX8 cc nL ret fr lo) {i : Nat} (hi : kdM i = 8) (hdg : decode cc pc = .ok (.getfield 35, 3))
    (kk : fk_J wM g en k (pc + 3) lv (fk_r g 9 :: stk) st F) : fk_J wM g en k pc lv (fk_r g i :: stk) st F := by
  intro o ho hq
  have kk := kk o ho hq
  obtain ⟨p, l, e, R, s, m, args, below, meth, c, rv, sf⟩ := k
  obtain ⟨hx, hb, hml, hown, hts, hK, hE, hr, hlk, hinj, hfr, hlo⟩ := hk
  intro H locs ls hl hP hS
  exact va_get (D := g.2.1) (ci := 8) (C := RX8) (T := TX8) (N := 37) (v := fk_r g 9) hx hb hts wB_8 hown hK hP i (wat_8 hi) rfl 14 (by decide) (hts _ wf_8_35) (fun _ h => h) rfl hdg (kk H locs ls hl hP hS)
theorem wf_8_78 : Cond.fieldLink RX8 78 "PieFunnelsModel" "fault" "I" ∈ fkB := fkB_in (List.mem_of_getElem? (i := 911) (by decide +kernel)) rfl
theorem f_8_78 {g : fkG} {k : fkK} {ρ : Type} {en : ρ → Option Value} {cc : ByteArray} {nL fr lo pc : Nat} {ret : Option FieldType} {lv : List (Nat × Value)} {stk : List Value} {st : fkS} (hk : fk_ok wM g k RX8 cc nL ret fr lo) {i : Nat} {F1 : Int32 → Option (ρ × fkS)} (hi : kdM i = 8) (hdg : decode cc pc = .ok (.getfield 78, 3))
    (kk : ∀ x, fk_J wM g en k (pc + 3) lv (.int x :: stk) st (F1 x)) : fk_J wM g en k pc lv (fk_r g i :: stk) st (fk_let (gI st 15 i) F1) := by
  intro o ho hq
  have kk := kk (gI st 15 i) o ho hq
  obtain ⟨p, l, e, R, s, m, args, below, meth, c, rv, sf⟩ := k
  obtain ⟨hx, hb, hml, hown, hts, hK, hE, hr, hlk, hinj, hfr, hlo⟩ := hk
  intro H locs ls hl hP hS
  exact va_get (D := g.2.1) (ci := 8) (C := RX8) (T := TX8) (N := 37) (v := .int (gI st 15 i)) hx hb hts wB_8 hown hK hP i (wat_8 hi) rfl 15 (by decide) (hts _ wf_8_78) (fun _ h => h) rfl hdg (kk H locs ls hl hP hS)
theorem p_8_78 {g : fkG} {k : fkK} {ρ : Type} {en : ρ → Option Value} {cc : ByteArray} {nL fr lo pc : Nat} {ret : Option FieldType} {lv : List (Nat × Value)} {stk : List Value} {st : fkS} (hk : fk_ok wM g k RX8 cc nL ret fr lo) {i : Nat} {v : Int32} {F1 : fkS → Option (ρ × fkS)} (hi : kdM i = 8) (hdg : decode cc pc = .ok (.putfield 78, 3))
    (kk : ∀ st1, fk_J wM g en k (pc + 3) lv stk st1 (F1 st1)) : fk_J wM g en k pc lv (.int v :: fk_r g i :: stk) st (fk_let (sI st 15 i v) F1) := by
  intro o ho hq
  have kk := kk (sI st 15 i v) o ho hq
  obtain ⟨p, l, e, R, s, m, args, below, meth, c, rv, sf⟩ := k
  obtain ⟨hx, hb, hml, hown, hts, hK, hE, hr, hlk, hinj, hfr, hlo⟩ := hk
  intro H locs ls hl hP hS
  refine va_put (D := g.2.1) (ci := 8) (C := RX8) (T := TX8) (N := 37) (v := .int v) (ty := .int) hx hb hts wB_8 tyX8 tyX8_ok nmX8 hown hK hP (fk_wD hinj _ _) hS i (wat_8 hi) rfl 15 (by decide) (hts _ wf_8_78) (fun _ h => h) rfl (by decide +kernel) rfl rfl (Nat.le_of_ble_eq_true rfl) hdg (fun H1 locs1 hP1 hD1 hS1 => kk H1 locs1 ls hl ?_ hS1)
  rw [← wst_8_15 hi]
  exact hP1
theorem wf_8_38 : Cond.fieldLink RX8 38 "PieFunnelsModel" "ahead" "[I" ∈ fkB := fkB_in (List.mem_of_getElem? (i := 912) (by decide +kernel)) rfl
theorem f_8_38 {g : fkG} {k : fkK} {ρ : Type} {en : ρ → Option Value} {cc : ByteArray} {nL fr lo pc : Nat} {ret : Option FieldType} {lv : List (Nat × Value)} {stk : List Value} {st : fkS} {F : Option (ρ × fkS)} (hk : fk_ok wM g k RX8 cc nL ret fr lo) {i : Nat} (hi : kdM i = 8) (hdg : decode cc pc = .ok (.getfield 38, 3))
    (kk : fk_J wM g en k (pc + 3) lv (fk_r g 10 :: stk) st F) : fk_J wM g en k pc lv (fk_r g i :: stk) st F := by
  intro o ho hq
  have kk := kk o ho hq
  obtain ⟨p, l, e, R, s, m, args, below, meth, c, rv, sf⟩ := k
  obtain ⟨hx, hb, hml, hown, hts, hK, hE, hr, hlk, hinj, hfr, hlo⟩ := hk
  intro H locs ls hl hP hS
  exact va_get (D := g.2.1) (ci := 8) (C := RX8) (T := TX8) (N := 37) (v := fk_r g 10) hx hb hts wB_8 hown hK hP i (wat_8 hi) rfl 16 (by decide) (hts _ wf_8_38) (fun _ h => h) rfl hdg (kk H locs ls hl hP hS)
theorem wf_8_289 : Cond.fieldLink RX8 289 "PieFunnelsModel" "traced" "I" ∈ fkB := fkB_in (List.mem_of_getElem? (i := 913) (by decide +kernel)) rfl
theorem f_8_289 {g : fkG} {k : fkK} {ρ : Type} {en : ρ → Option Value} {cc : ByteArray} {nL fr lo pc : Nat} {ret : Option FieldType} {lv : List (Nat × Value)} {stk : List Value} {st : fkS} (hk : fk_ok wM g k RX8 cc nL ret fr lo) {i : Nat} {F1 : Int32 → Option (ρ × fkS)} (hi : kdM i = 8) (hdg : decode cc pc = .ok (.getfield 289, 3))
    (kk : ∀ x, fk_J wM g en k (pc + 3) lv (.int x :: stk) st (F1 x)) : fk_J wM g en k pc lv (fk_r g i :: stk) st (fk_let (gI st 17 i) F1) := by
  intro o ho hq
  have kk := kk (gI st 17 i) o ho hq
  obtain ⟨p, l, e, R, s, m, args, below, meth, c, rv, sf⟩ := k
  obtain ⟨hx, hb, hml, hown, hts, hK, hE, hr, hlk, hinj, hfr, hlo⟩ := hk
  intro H locs ls hl hP hS
  exact va_get (D := g.2.1) (ci := 8) (C := RX8) (T := TX8) (N := 37) (v := .int (gI st 17 i)) hx hb hts wB_8 hown hK hP i (wat_8 hi) rfl 17 (by decide) (hts _ wf_8_289) (fun _ h => h) rfl hdg (kk H locs ls hl hP hS)
theorem p_8_289 {g : fkG} {k : fkK} {ρ : Type} {en : ρ → Option Value} {cc : ByteArray} {nL fr lo pc : Nat} {ret : Option FieldType} {lv : List (Nat × Value)} {stk : List Value} {st : fkS} (hk : fk_ok wM g k RX8 cc nL ret fr lo) {i : Nat} {v : Int32} {F1 : fkS → Option (ρ × fkS)} (hi : kdM i = 8) (hdg : decode cc pc = .ok (.putfield 289, 3))
    (kk : ∀ st1, fk_J wM g en k (pc + 3) lv stk st1 (F1 st1)) : fk_J wM g en k pc lv (.int v :: fk_r g i :: stk) st (fk_let (sI st 17 i v) F1) := by
  intro o ho hq
  have kk := kk (sI st 17 i v) o ho hq
  obtain ⟨p, l, e, R, s, m, args, below, meth, c, rv, sf⟩ := k
  obtain ⟨hx, hb, hml, hown, hts, hK, hE, hr, hlk, hinj, hfr, hlo⟩ := hk
  intro H locs ls hl hP hS
  refine va_put (D := g.2.1) (ci := 8) (C := RX8) (T := TX8) (N := 37) (v := .int v) (ty := .int) hx hb hts wB_8 tyX8 tyX8_ok nmX8 hown hK hP (fk_wD hinj _ _) hS i (wat_8 hi) rfl 17 (by decide) (hts _ wf_8_289) (fun _ h => h) rfl (by decide +kernel) rfl rfl (Nat.le_of_ble_eq_true rfl) hdg (fun H1 locs1 hP1 hD1 hS1 => kk H1 locs1 ls hl ?_ hS1)
  rw [← wst_8_17 hi]
  exact hP1
theorem wf_8_41 : Cond.fieldLink RX8 41 "PieFunnelsModel" "traces" "[I" ∈ fkB := fkB_in (List.mem_of_getElem? (i := 914) (by decide +kernel)) rfl
theorem f_8_41 {g : fkG} {k : fkK} {ρ : Type} {en : ρ → Option Value} {cc : ByteArray} {nL fr lo pc : Nat} {ret : Option FieldType} {lv : List (Nat × Value)} {stk : List Value} {st : fkS} {F : Option (ρ × fkS)} (hk : fk_ok wM g k RX8 cc nL ret fr lo) {i : Nat} (hi : kdM i = 8) (hdg : decode cc pc = .ok (.getfield 41, 3))
    (kk : fk_J wM g en k (pc + 3) lv (fk_r g 11 :: stk) st F) : fk_J wM g en k pc lv (fk_r g i :: stk) st F := by
  intro o ho hq
  have kk := kk o ho hq
  obtain ⟨p, l, e, R, s, m, args, below, meth, c, rv, sf⟩ := k
  obtain ⟨hx, hb, hml, hown, hts, hK, hE, hr, hlk, hinj, hfr, hlo⟩ := hk
  intro H locs ls hl hP hS
  exact va_get (D := g.2.1) (ci := 8) (C := RX8) (T := TX8) (N := 37) (v := fk_r g 11) hx hb hts wB_8 hown hK hP i (wat_8 hi) rfl 18 (by decide) (hts _ wf_8_41) (fun _ h => h) rfl hdg (kk H locs ls hl hP hS)
theorem wf_8_44 : Cond.fieldLink RX8 44 "PieFunnelsModel" "refusals" "[I" ∈ fkB := fkB_in (List.mem_of_getElem? (i := 915) (by decide +kernel)) rfl
theorem f_8_44 {g : fkG} {k : fkK} {ρ : Type} {en : ρ → Option Value} {cc : ByteArray} {nL fr lo pc : Nat} {ret : Option FieldType} {lv : List (Nat × Value)} {stk : List Value} {st : fkS} {F : Option (ρ × fkS)} (hk : fk_ok wM g k RX8 cc nL ret fr lo) {i : Nat} (hi : kdM i = 8) (hdg : decode cc pc = .ok (.getfield 44, 3))
    (kk : fk_J wM g en k (pc + 3) lv (fk_r g 12 :: stk) st F) : fk_J wM g en k pc lv (fk_r g i :: stk) st F := by
  intro o ho hq
  have kk := kk o ho hq
  obtain ⟨p, l, e, R, s, m, args, below, meth, c, rv, sf⟩ := k
  obtain ⟨hx, hb, hml, hown, hts, hK, hE, hr, hlk, hinj, hfr, hlo⟩ := hk
  intro H locs ls hl hP hS
  exact va_get (D := g.2.1) (ci := 8) (C := RX8) (T := TX8) (N := 37) (v := fk_r g 12) hx hb hts wB_8 hown hK hP i (wat_8 hi) rfl 19 (by decide) (hts _ wf_8_44) (fun _ h => h) rfl hdg (kk H locs ls hl hP hS)
theorem wf_8_304 : Cond.fieldLink RX8 304 "PieFunnelsModel" "imaged" "Z" ∈ fkB := fkB_in (List.mem_of_getElem? (i := 916) (by decide +kernel)) rfl
theorem f_8_304 {g : fkG} {k : fkK} {ρ : Type} {en : ρ → Option Value} {cc : ByteArray} {nL fr lo pc : Nat} {ret : Option FieldType} {lv : List (Nat × Value)} {stk : List Value} {st : fkS} (hk : fk_ok wM g k RX8 cc nL ret fr lo) {i : Nat} {F1 : Int32 → Option (ρ × fkS)} (hi : kdM i = 8) (hdg : decode cc pc = .ok (.getfield 304, 3))
    (kk : ∀ x, fk_J wM g en k (pc + 3) lv (.int x :: stk) st (F1 x)) : fk_J wM g en k pc lv (fk_r g i :: stk) st (fk_let (gI st 20 i) F1) := by
  intro o ho hq
  have kk := kk (gI st 20 i) o ho hq
  obtain ⟨p, l, e, R, s, m, args, below, meth, c, rv, sf⟩ := k
  obtain ⟨hx, hb, hml, hown, hts, hK, hE, hr, hlk, hinj, hfr, hlo⟩ := hk
  intro H locs ls hl hP hS
  exact va_get (D := g.2.1) (ci := 8) (C := RX8) (T := TX8) (N := 37) (v := .int (gI st 20 i)) hx hb hts wB_8 hown hK hP i (wat_8 hi) rfl 20 (by decide) (hts _ wf_8_304) (fun _ h => h) rfl hdg (kk H locs ls hl hP hS)
theorem p_8_304 {g : fkG} {k : fkK} {ρ : Type} {en : ρ → Option Value} {cc : ByteArray} {nL fr lo pc : Nat} {ret : Option FieldType} {lv : List (Nat × Value)} {stk : List Value} {st : fkS} (hk : fk_ok wM g k RX8 cc nL ret fr lo) {i : Nat} {v : Int32} {F1 : fkS → Option (ρ × fkS)} (hi : kdM i = 8) (hn : narrow .boolean (.int v) = .int v) (hft : fits .boolean (.int v) = true) (hdg : decode cc pc = .ok (.putfield 304, 3))
    (kk : ∀ st1, fk_J wM g en k (pc + 3) lv stk st1 (F1 st1)) : fk_J wM g en k pc lv (.int v :: fk_r g i :: stk) st (fk_let (sI st 20 i v) F1) := by
  intro o ho hq
  have kk := kk (sI st 20 i v) o ho hq
  obtain ⟨p, l, e, R, s, m, args, below, meth, c, rv, sf⟩ := k
  obtain ⟨hx, hb, hml, hown, hts, hK, hE, hr, hlk, hinj, hfr, hlo⟩ := hk
  intro H locs ls hl hP hS
  refine va_put (D := g.2.1) (ci := 8) (C := RX8) (T := TX8) (N := 37) (v := .int v) (ty := .boolean) hx hb hts wB_8 tyX8 tyX8_ok nmX8 hown hK hP (fk_wD hinj _ _) hS i (wat_8 hi) rfl 20 (by decide) (hts _ wf_8_304) (fun _ h => h) rfl (by decide +kernel) hn hft (Nat.le_of_ble_eq_true rfl) hdg (fun H1 locs1 hP1 hD1 hS1 => kk H1 locs1 ls hl ?_ hS1)
  rw [← wst_8_20 hi]
  exact hP1
theorem wf_8_47 : Cond.fieldLink RX8 47 "PieFunnelsModel" "old" "[I" ∈ fkB := fkB_in (List.mem_of_getElem? (i := 917) (by decide +kernel)) rfl
theorem f_8_47 {g : fkG} {k : fkK} {ρ : Type} {en : ρ → Option Value} {cc : ByteArray} {nL fr lo pc : Nat} {ret : Option FieldType} {lv : List (Nat × Value)} {stk : List Value} {st : fkS} {F : Option (ρ × fkS)} (hk : fk_ok wM g k RX8 cc nL ret fr lo) {i : Nat} (hi : kdM i = 8) (hdg : decode cc pc = .ok (.getfield 47, 3))
    (kk : fk_J wM g en k (pc + 3) lv (fk_r g 13 :: stk) st F) : fk_J wM g en k pc lv (fk_r g i :: stk) st F := by
  intro o ho hq
  have kk := kk o ho hq
  obtain ⟨p, l, e, R, s, m, args, below, meth, c, rv, sf⟩ := k
  obtain ⟨hx, hb, hml, hown, hts, hK, hE, hr, hlk, hinj, hfr, hlo⟩ := hk
  intro H locs ls hl hP hS
  exact va_get (D := g.2.1) (ci := 8) (C := RX8) (T := TX8) (N := 37) (v := fk_r g 13) hx hb hts wB_8 hown hK hP i (wat_8 hi) rfl 21 (by decide) (hts _ wf_8_47) (fun _ h => h) rfl hdg (kk H locs ls hl hP hS)
theorem wf_8_112 : Cond.fieldLink RX8 112 "PieFunnelsModel" "laid" "I" ∈ fkB := fkB_in (List.mem_of_getElem? (i := 918) (by decide +kernel)) rfl
theorem f_8_112 {g : fkG} {k : fkK} {ρ : Type} {en : ρ → Option Value} {cc : ByteArray} {nL fr lo pc : Nat} {ret : Option FieldType} {lv : List (Nat × Value)} {stk : List Value} {st : fkS} (hk : fk_ok wM g k RX8 cc nL ret fr lo) {i : Nat} {F1 : Int32 → Option (ρ × fkS)} (hi : kdM i = 8) (hdg : decode cc pc = .ok (.getfield 112, 3))
    (kk : ∀ x, fk_J wM g en k (pc + 3) lv (.int x :: stk) st (F1 x)) : fk_J wM g en k pc lv (fk_r g i :: stk) st (fk_let (gI st 22 i) F1) := by
  intro o ho hq
  have kk := kk (gI st 22 i) o ho hq
  obtain ⟨p, l, e, R, s, m, args, below, meth, c, rv, sf⟩ := k
  obtain ⟨hx, hb, hml, hown, hts, hK, hE, hr, hlk, hinj, hfr, hlo⟩ := hk
  intro H locs ls hl hP hS
  exact va_get (D := g.2.1) (ci := 8) (C := RX8) (T := TX8) (N := 37) (v := .int (gI st 22 i)) hx hb hts wB_8 hown hK hP i (wat_8 hi) rfl 22 (by decide) (hts _ wf_8_112) (fun _ h => h) rfl hdg (kk H locs ls hl hP hS)
theorem p_8_112 {g : fkG} {k : fkK} {ρ : Type} {en : ρ → Option Value} {cc : ByteArray} {nL fr lo pc : Nat} {ret : Option FieldType} {lv : List (Nat × Value)} {stk : List Value} {st : fkS} (hk : fk_ok wM g k RX8 cc nL ret fr lo) {i : Nat} {v : Int32} {F1 : fkS → Option (ρ × fkS)} (hi : kdM i = 8) (hdg : decode cc pc = .ok (.putfield 112, 3))
    (kk : ∀ st1, fk_J wM g en k (pc + 3) lv stk st1 (F1 st1)) : fk_J wM g en k pc lv (.int v :: fk_r g i :: stk) st (fk_let (sI st 22 i v) F1) := by
  intro o ho hq
  have kk := kk (sI st 22 i v) o ho hq
  obtain ⟨p, l, e, R, s, m, args, below, meth, c, rv, sf⟩ := k
  obtain ⟨hx, hb, hml, hown, hts, hK, hE, hr, hlk, hinj, hfr, hlo⟩ := hk
  intro H locs ls hl hP hS
  refine va_put (D := g.2.1) (ci := 8) (C := RX8) (T := TX8) (N := 37) (v := .int v) (ty := .int) hx hb hts wB_8 tyX8 tyX8_ok nmX8 hown hK hP (fk_wD hinj _ _) hS i (wat_8 hi) rfl 22 (by decide) (hts _ wf_8_112) (fun _ h => h) rfl (by decide +kernel) rfl rfl (Nat.le_of_ble_eq_true rfl) hdg (fun H1 locs1 hP1 hD1 hS1 => kk H1 locs1 ls hl ?_ hS1)
  rw [← wst_8_22 hi]
  exact hP1
theorem wf_8_50 : Cond.fieldLink RX8 50 "PieFunnelsModel" "pie" "[I" ∈ fkB := fkB_in (List.mem_of_getElem? (i := 919) (by decide +kernel)) rfl
theorem f_8_50 {g : fkG} {k : fkK} {ρ : Type} {en : ρ → Option Value} {cc : ByteArray} {nL fr lo pc : Nat} {ret : Option FieldType} {lv : List (Nat × Value)} {stk : List Value} {st : fkS} {F : Option (ρ × fkS)} (hk : fk_ok wM g k RX8 cc nL ret fr lo) {i : Nat} (hi : kdM i = 8) (hdg : decode cc pc = .ok (.getfield 50, 3))
    (kk : fk_J wM g en k (pc + 3) lv (fk_r g 14 :: stk) st F) : fk_J wM g en k pc lv (fk_r g i :: stk) st F := by
  intro o ho hq
  have kk := kk o ho hq
  obtain ⟨p, l, e, R, s, m, args, below, meth, c, rv, sf⟩ := k
  obtain ⟨hx, hb, hml, hown, hts, hK, hE, hr, hlk, hinj, hfr, hlo⟩ := hk
  intro H locs ls hl hP hS
  exact va_get (D := g.2.1) (ci := 8) (C := RX8) (T := TX8) (N := 37) (v := fk_r g 14) hx hb hts wB_8 hown hK hP i (wat_8 hi) rfl 23 (by decide) (hts _ wf_8_50) (fun _ h => h) rfl hdg (kk H locs ls hl hP hS)
theorem wf_8_119 : Cond.fieldLink RX8 119 "PieFunnelsModel" "many" "I" ∈ fkB := fkB_in (List.mem_of_getElem? (i := 920) (by decide +kernel)) rfl
theorem f_8_119 {g : fkG} {k : fkK} {ρ : Type} {en : ρ → Option Value} {cc : ByteArray} {nL fr lo pc : Nat} {ret : Option FieldType} {lv : List (Nat × Value)} {stk : List Value} {st : fkS} (hk : fk_ok wM g k RX8 cc nL ret fr lo) {i : Nat} {F1 : Int32 → Option (ρ × fkS)} (hi : kdM i = 8) (hdg : decode cc pc = .ok (.getfield 119, 3))
    (kk : ∀ x, fk_J wM g en k (pc + 3) lv (.int x :: stk) st (F1 x)) : fk_J wM g en k pc lv (fk_r g i :: stk) st (fk_let (gI st 24 i) F1) := by
  intro o ho hq
  have kk := kk (gI st 24 i) o ho hq
  obtain ⟨p, l, e, R, s, m, args, below, meth, c, rv, sf⟩ := k
  obtain ⟨hx, hb, hml, hown, hts, hK, hE, hr, hlk, hinj, hfr, hlo⟩ := hk
  intro H locs ls hl hP hS
  exact va_get (D := g.2.1) (ci := 8) (C := RX8) (T := TX8) (N := 37) (v := .int (gI st 24 i)) hx hb hts wB_8 hown hK hP i (wat_8 hi) rfl 24 (by decide) (hts _ wf_8_119) (fun _ h => h) rfl hdg (kk H locs ls hl hP hS)
theorem p_8_119 {g : fkG} {k : fkK} {ρ : Type} {en : ρ → Option Value} {cc : ByteArray} {nL fr lo pc : Nat} {ret : Option FieldType} {lv : List (Nat × Value)} {stk : List Value} {st : fkS} (hk : fk_ok wM g k RX8 cc nL ret fr lo) {i : Nat} {v : Int32} {F1 : fkS → Option (ρ × fkS)} (hi : kdM i = 8) (hdg : decode cc pc = .ok (.putfield 119, 3))
    (kk : ∀ st1, fk_J wM g en k (pc + 3) lv stk st1 (F1 st1)) : fk_J wM g en k pc lv (.int v :: fk_r g i :: stk) st (fk_let (sI st 24 i v) F1) := by
  intro o ho hq
  have kk := kk (sI st 24 i v) o ho hq
  obtain ⟨p, l, e, R, s, m, args, below, meth, c, rv, sf⟩ := k
  obtain ⟨hx, hb, hml, hown, hts, hK, hE, hr, hlk, hinj, hfr, hlo⟩ := hk
  intro H locs ls hl hP hS
  refine va_put (D := g.2.1) (ci := 8) (C := RX8) (T := TX8) (N := 37) (v := .int v) (ty := .int) hx hb hts wB_8 tyX8 tyX8_ok nmX8 hown hK hP (fk_wD hinj _ _) hS i (wat_8 hi) rfl 24 (by decide) (hts _ wf_8_119) (fun _ h => h) rfl (by decide +kernel) rfl rfl (Nat.le_of_ble_eq_true rfl) hdg (fun H1 locs1 hP1 hD1 hS1 => kk H1 locs1 ls hl ?_ hS1)
  rw [← wst_8_24 hi]
  exact hP1
theorem wf_8_53 : Cond.fieldLink RX8 53 "PieFunnelsModel" "signs" "[I" ∈ fkB := fkB_in (List.mem_of_getElem? (i := 921) (by decide +kernel)) rfl
theorem f_8_53 {g : fkG} {k : fkK} {ρ : Type} {en : ρ → Option Value} {cc : ByteArray} {nL fr lo pc : Nat} {ret : Option FieldType} {lv : List (Nat × Value)} {stk : List Value} {st : fkS} {F : Option (ρ × fkS)} (hk : fk_ok wM g k RX8 cc nL ret fr lo) {i : Nat} (hi : kdM i = 8) (hdg : decode cc pc = .ok (.getfield 53, 3))
    (kk : fk_J wM g en k (pc + 3) lv (fk_r g 15 :: stk) st F) : fk_J wM g en k pc lv (fk_r g i :: stk) st F := by
  intro o ho hq
  have kk := kk o ho hq
  obtain ⟨p, l, e, R, s, m, args, below, meth, c, rv, sf⟩ := k
  obtain ⟨hx, hb, hml, hown, hts, hK, hE, hr, hlk, hinj, hfr, hlo⟩ := hk
  intro H locs ls hl hP hS
  exact va_get (D := g.2.1) (ci := 8) (C := RX8) (T := TX8) (N := 37) (v := fk_r g 15) hx hb hts wB_8 hown hK hP i (wat_8 hi) rfl 25 (by decide) (hts _ wf_8_53) (fun _ h => h) rfl hdg (kk H locs ls hl hP hS)
theorem wf_8_209 : Cond.fieldLink RX8 209 "PieFunnelsModel" "ended" "I" ∈ fkB := fkB_in (List.mem_of_getElem? (i := 922) (by decide +kernel)) rfl
theorem f_8_209 {g : fkG} {k : fkK} {ρ : Type} {en : ρ → Option Value} {cc : ByteArray} {nL fr lo pc : Nat} {ret : Option FieldType} {lv : List (Nat × Value)} {stk : List Value} {st : fkS} (hk : fk_ok wM g k RX8 cc nL ret fr lo) {i : Nat} {F1 : Int32 → Option (ρ × fkS)} (hi : kdM i = 8) (hdg : decode cc pc = .ok (.getfield 209, 3))
    (kk : ∀ x, fk_J wM g en k (pc + 3) lv (.int x :: stk) st (F1 x)) : fk_J wM g en k pc lv (fk_r g i :: stk) st (fk_let (gI st 26 i) F1) := by
  intro o ho hq
  have kk := kk (gI st 26 i) o ho hq
  obtain ⟨p, l, e, R, s, m, args, below, meth, c, rv, sf⟩ := k
  obtain ⟨hx, hb, hml, hown, hts, hK, hE, hr, hlk, hinj, hfr, hlo⟩ := hk
  intro H locs ls hl hP hS
  exact va_get (D := g.2.1) (ci := 8) (C := RX8) (T := TX8) (N := 37) (v := .int (gI st 26 i)) hx hb hts wB_8 hown hK hP i (wat_8 hi) rfl 26 (by decide) (hts _ wf_8_209) (fun _ h => h) rfl hdg (kk H locs ls hl hP hS)
theorem p_8_209 {g : fkG} {k : fkK} {ρ : Type} {en : ρ → Option Value} {cc : ByteArray} {nL fr lo pc : Nat} {ret : Option FieldType} {lv : List (Nat × Value)} {stk : List Value} {st : fkS} (hk : fk_ok wM g k RX8 cc nL ret fr lo) {i : Nat} {v : Int32} {F1 : fkS → Option (ρ × fkS)} (hi : kdM i = 8) (hdg : decode cc pc = .ok (.putfield 209, 3))
    (kk : ∀ st1, fk_J wM g en k (pc + 3) lv stk st1 (F1 st1)) : fk_J wM g en k pc lv (.int v :: fk_r g i :: stk) st (fk_let (sI st 26 i v) F1) := by
  intro o ho hq
  have kk := kk (sI st 26 i v) o ho hq
  obtain ⟨p, l, e, R, s, m, args, below, meth, c, rv, sf⟩ := k
  obtain ⟨hx, hb, hml, hown, hts, hK, hE, hr, hlk, hinj, hfr, hlo⟩ := hk
  intro H locs ls hl hP hS
  refine va_put (D := g.2.1) (ci := 8) (C := RX8) (T := TX8) (N := 37) (v := .int v) (ty := .int) hx hb hts wB_8 tyX8 tyX8_ok nmX8 hown hK hP (fk_wD hinj _ _) hS i (wat_8 hi) rfl 26 (by decide) (hts _ wf_8_209) (fun _ h => h) rfl (by decide +kernel) rfl rfl (Nat.le_of_ble_eq_true rfl) hdg (fun H1 locs1 hP1 hD1 hS1 => kk H1 locs1 ls hl ?_ hS1)
  rw [← wst_8_26 hi]
  exact hP1
theorem wf_8_212 : Cond.fieldLink RX8 212 "PieFunnelsModel" "ills" "I" ∈ fkB := fkB_in (List.mem_of_getElem? (i := 923) (by decide +kernel)) rfl
theorem f_8_212 {g : fkG} {k : fkK} {ρ : Type} {en : ρ → Option Value} {cc : ByteArray} {nL fr lo pc : Nat} {ret : Option FieldType} {lv : List (Nat × Value)} {stk : List Value} {st : fkS} (hk : fk_ok wM g k RX8 cc nL ret fr lo) {i : Nat} {F1 : Int32 → Option (ρ × fkS)} (hi : kdM i = 8) (hdg : decode cc pc = .ok (.getfield 212, 3))
    (kk : ∀ x, fk_J wM g en k (pc + 3) lv (.int x :: stk) st (F1 x)) : fk_J wM g en k pc lv (fk_r g i :: stk) st (fk_let (gI st 27 i) F1) := by
  intro o ho hq
  have kk := kk (gI st 27 i) o ho hq
  obtain ⟨p, l, e, R, s, m, args, below, meth, c, rv, sf⟩ := k
  obtain ⟨hx, hb, hml, hown, hts, hK, hE, hr, hlk, hinj, hfr, hlo⟩ := hk
  intro H locs ls hl hP hS
  exact va_get (D := g.2.1) (ci := 8) (C := RX8) (T := TX8) (N := 37) (v := .int (gI st 27 i)) hx hb hts wB_8 hown hK hP i (wat_8 hi) rfl 27 (by decide) (hts _ wf_8_212) (fun _ h => h) rfl hdg (kk H locs ls hl hP hS)
theorem p_8_212 {g : fkG} {k : fkK} {ρ : Type} {en : ρ → Option Value} {cc : ByteArray} {nL fr lo pc : Nat} {ret : Option FieldType} {lv : List (Nat × Value)} {stk : List Value} {st : fkS} (hk : fk_ok wM g k RX8 cc nL ret fr lo) {i : Nat} {v : Int32} {F1 : fkS → Option (ρ × fkS)} (hi : kdM i = 8) (hdg : decode cc pc = .ok (.putfield 212, 3))
    (kk : ∀ st1, fk_J wM g en k (pc + 3) lv stk st1 (F1 st1)) : fk_J wM g en k pc lv (.int v :: fk_r g i :: stk) st (fk_let (sI st 27 i v) F1) := by
  intro o ho hq
  have kk := kk (sI st 27 i v) o ho hq
  obtain ⟨p, l, e, R, s, m, args, below, meth, c, rv, sf⟩ := k
  obtain ⟨hx, hb, hml, hown, hts, hK, hE, hr, hlk, hinj, hfr, hlo⟩ := hk
  intro H locs ls hl hP hS
  refine va_put (D := g.2.1) (ci := 8) (C := RX8) (T := TX8) (N := 37) (v := .int v) (ty := .int) hx hb hts wB_8 tyX8 tyX8_ok nmX8 hown hK hP (fk_wD hinj _ _) hS i (wat_8 hi) rfl 27 (by decide) (hts _ wf_8_212) (fun _ h => h) rfl (by decide +kernel) rfl rfl (Nat.le_of_ble_eq_true rfl) hdg (fun H1 locs1 hP1 hD1 hS1 => kk H1 locs1 ls hl ?_ hS1)
  rw [← wst_8_27 hi]
  exact hP1
theorem wf_8_56 : Cond.fieldLink RX8 56 "PieFunnelsModel" "group" "[I" ∈ fkB := fkB_in (List.mem_of_getElem? (i := 924) (by decide +kernel)) rfl
theorem f_8_56 {g : fkG} {k : fkK} {ρ : Type} {en : ρ → Option Value} {cc : ByteArray} {nL fr lo pc : Nat} {ret : Option FieldType} {lv : List (Nat × Value)} {stk : List Value} {st : fkS} {F : Option (ρ × fkS)} (hk : fk_ok wM g k RX8 cc nL ret fr lo) {i : Nat} (hi : kdM i = 8) (hdg : decode cc pc = .ok (.getfield 56, 3))
    (kk : fk_J wM g en k (pc + 3) lv (fk_r g 16 :: stk) st F) : fk_J wM g en k pc lv (fk_r g i :: stk) st F := by
  intro o ho hq
  have kk := kk o ho hq
  obtain ⟨p, l, e, R, s, m, args, below, meth, c, rv, sf⟩ := k
  obtain ⟨hx, hb, hml, hown, hts, hK, hE, hr, hlk, hinj, hfr, hlo⟩ := hk
  intro H locs ls hl hP hS
  exact va_get (D := g.2.1) (ci := 8) (C := RX8) (T := TX8) (N := 37) (v := fk_r g 16) hx hb hts wB_8 hown hK hP i (wat_8 hi) rfl 28 (by decide) (hts _ wf_8_56) (fun _ h => h) rfl hdg (kk H locs ls hl hP hS)
theorem wf_8_59 : Cond.fieldLink RX8 59 "PieFunnelsModel" "groupSigns" "[I" ∈ fkB := fkB_in (List.mem_of_getElem? (i := 925) (by decide +kernel)) rfl
theorem f_8_59 {g : fkG} {k : fkK} {ρ : Type} {en : ρ → Option Value} {cc : ByteArray} {nL fr lo pc : Nat} {ret : Option FieldType} {lv : List (Nat × Value)} {stk : List Value} {st : fkS} {F : Option (ρ × fkS)} (hk : fk_ok wM g k RX8 cc nL ret fr lo) {i : Nat} (hi : kdM i = 8) (hdg : decode cc pc = .ok (.getfield 59, 3))
    (kk : fk_J wM g en k (pc + 3) lv (fk_r g 17 :: stk) st F) : fk_J wM g en k pc lv (fk_r g i :: stk) st F := by
  intro o ho hq
  have kk := kk o ho hq
  obtain ⟨p, l, e, R, s, m, args, below, meth, c, rv, sf⟩ := k
  obtain ⟨hx, hb, hml, hown, hts, hK, hE, hr, hlk, hinj, hfr, hlo⟩ := hk
  intro H locs ls hl hP hS
  exact va_get (D := g.2.1) (ci := 8) (C := RX8) (T := TX8) (N := 37) (v := fk_r g 17) hx hb hts wB_8 hown hK hP i (wat_8 hi) rfl 29 (by decide) (hts _ wf_8_59) (fun _ h => h) rfl hdg (kk H locs ls hl hP hS)
theorem wf_8_62 : Cond.fieldLink RX8 62 "PieFunnelsModel" "wished" "[I" ∈ fkB := fkB_in (List.mem_of_getElem? (i := 926) (by decide +kernel)) rfl
theorem f_8_62 {g : fkG} {k : fkK} {ρ : Type} {en : ρ → Option Value} {cc : ByteArray} {nL fr lo pc : Nat} {ret : Option FieldType} {lv : List (Nat × Value)} {stk : List Value} {st : fkS} {F : Option (ρ × fkS)} (hk : fk_ok wM g k RX8 cc nL ret fr lo) {i : Nat} (hi : kdM i = 8) (hdg : decode cc pc = .ok (.getfield 62, 3))
    (kk : fk_J wM g en k (pc + 3) lv (fk_r g 18 :: stk) st F) : fk_J wM g en k pc lv (fk_r g i :: stk) st F := by
  intro o ho hq
  have kk := kk o ho hq
  obtain ⟨p, l, e, R, s, m, args, below, meth, c, rv, sf⟩ := k
  obtain ⟨hx, hb, hml, hown, hts, hK, hE, hr, hlk, hinj, hfr, hlo⟩ := hk
  intro H locs ls hl hP hS
  exact va_get (D := g.2.1) (ci := 8) (C := RX8) (T := TX8) (N := 37) (v := fk_r g 18) hx hb hts wB_8 hown hK hP i (wat_8 hi) rfl 30 (by decide) (hts _ wf_8_62) (fun _ h => h) rfl hdg (kk H locs ls hl hP hS)
theorem wf_8_262 : Cond.fieldLink RX8 262 "PieFunnelsModel" "tribes" "I" ∈ fkB := fkB_in (List.mem_of_getElem? (i := 927) (by decide +kernel)) rfl
theorem f_8_262 {g : fkG} {k : fkK} {ρ : Type} {en : ρ → Option Value} {cc : ByteArray} {nL fr lo pc : Nat} {ret : Option FieldType} {lv : List (Nat × Value)} {stk : List Value} {st : fkS} (hk : fk_ok wM g k RX8 cc nL ret fr lo) {i : Nat} {F1 : Int32 → Option (ρ × fkS)} (hi : kdM i = 8) (hdg : decode cc pc = .ok (.getfield 262, 3))
    (kk : ∀ x, fk_J wM g en k (pc + 3) lv (.int x :: stk) st (F1 x)) : fk_J wM g en k pc lv (fk_r g i :: stk) st (fk_let (gI st 31 i) F1) := by
  intro o ho hq
  have kk := kk (gI st 31 i) o ho hq
  obtain ⟨p, l, e, R, s, m, args, below, meth, c, rv, sf⟩ := k
  obtain ⟨hx, hb, hml, hown, hts, hK, hE, hr, hlk, hinj, hfr, hlo⟩ := hk
  intro H locs ls hl hP hS
  exact va_get (D := g.2.1) (ci := 8) (C := RX8) (T := TX8) (N := 37) (v := .int (gI st 31 i)) hx hb hts wB_8 hown hK hP i (wat_8 hi) rfl 31 (by decide) (hts _ wf_8_262) (fun _ h => h) rfl hdg (kk H locs ls hl hP hS)
theorem p_8_262 {g : fkG} {k : fkK} {ρ : Type} {en : ρ → Option Value} {cc : ByteArray} {nL fr lo pc : Nat} {ret : Option FieldType} {lv : List (Nat × Value)} {stk : List Value} {st : fkS} (hk : fk_ok wM g k RX8 cc nL ret fr lo) {i : Nat} {v : Int32} {F1 : fkS → Option (ρ × fkS)} (hi : kdM i = 8) (hdg : decode cc pc = .ok (.putfield 262, 3))
    (kk : ∀ st1, fk_J wM g en k (pc + 3) lv stk st1 (F1 st1)) : fk_J wM g en k pc lv (.int v :: fk_r g i :: stk) st (fk_let (sI st 31 i v) F1) := by
  intro o ho hq
  have kk := kk (sI st 31 i v) o ho hq
  obtain ⟨p, l, e, R, s, m, args, below, meth, c, rv, sf⟩ := k
  obtain ⟨hx, hb, hml, hown, hts, hK, hE, hr, hlk, hinj, hfr, hlo⟩ := hk
  intro H locs ls hl hP hS
  refine va_put (D := g.2.1) (ci := 8) (C := RX8) (T := TX8) (N := 37) (v := .int v) (ty := .int) hx hb hts wB_8 tyX8 tyX8_ok nmX8 hown hK hP (fk_wD hinj _ _) hS i (wat_8 hi) rfl 31 (by decide) (hts _ wf_8_262) (fun _ h => h) rfl (by decide +kernel) rfl rfl (Nat.le_of_ble_eq_true rfl) hdg (fun H1 locs1 hP1 hD1 hS1 => kk H1 locs1 ls hl ?_ hS1)
  rw [← wst_8_31 hi]
  exact hP1
theorem wf_8_65 : Cond.fieldLink RX8 65 "PieFunnelsModel" "brought" "[I" ∈ fkB := fkB_in (List.mem_of_getElem? (i := 928) (by decide +kernel)) rfl
theorem f_8_65 {g : fkG} {k : fkK} {ρ : Type} {en : ρ → Option Value} {cc : ByteArray} {nL fr lo pc : Nat} {ret : Option FieldType} {lv : List (Nat × Value)} {stk : List Value} {st : fkS} {F : Option (ρ × fkS)} (hk : fk_ok wM g k RX8 cc nL ret fr lo) {i : Nat} (hi : kdM i = 8) (hdg : decode cc pc = .ok (.getfield 65, 3))
    (kk : fk_J wM g en k (pc + 3) lv (fk_r g 19 :: stk) st F) : fk_J wM g en k pc lv (fk_r g i :: stk) st F := by
  intro o ho hq
  have kk := kk o ho hq
  obtain ⟨p, l, e, R, s, m, args, below, meth, c, rv, sf⟩ := k
  obtain ⟨hx, hb, hml, hown, hts, hK, hE, hr, hlk, hinj, hfr, hlo⟩ := hk
  intro H locs ls hl hP hS
  exact va_get (D := g.2.1) (ci := 8) (C := RX8) (T := TX8) (N := 37) (v := fk_r g 19) hx hb hts wB_8 hown hK hP i (wat_8 hi) rfl 32 (by decide) (hts _ wf_8_65) (fun _ h => h) rfl hdg (kk H locs ls hl hP hS)
theorem wf_8_68 : Cond.fieldLink RX8 68 "PieFunnelsModel" "tried" "[I" ∈ fkB := fkB_in (List.mem_of_getElem? (i := 929) (by decide +kernel)) rfl
theorem f_8_68 {g : fkG} {k : fkK} {ρ : Type} {en : ρ → Option Value} {cc : ByteArray} {nL fr lo pc : Nat} {ret : Option FieldType} {lv : List (Nat × Value)} {stk : List Value} {st : fkS} {F : Option (ρ × fkS)} (hk : fk_ok wM g k RX8 cc nL ret fr lo) {i : Nat} (hi : kdM i = 8) (hdg : decode cc pc = .ok (.getfield 68, 3))
    (kk : fk_J wM g en k (pc + 3) lv (fk_r g 20 :: stk) st F) : fk_J wM g en k pc lv (fk_r g i :: stk) st F := by
  intro o ho hq
  have kk := kk o ho hq
  obtain ⟨p, l, e, R, s, m, args, below, meth, c, rv, sf⟩ := k
  obtain ⟨hx, hb, hml, hown, hts, hK, hE, hr, hlk, hinj, hfr, hlo⟩ := hk
  intro H locs ls hl hP hS
  exact va_get (D := g.2.1) (ci := 8) (C := RX8) (T := TX8) (N := 37) (v := fk_r g 20) hx hb hts wB_8 hown hK hP i (wat_8 hi) rfl 33 (by decide) (hts _ wf_8_68) (fun _ h => h) rfl hdg (kk H locs ls hl hP hS)
theorem wf_8_71 : Cond.fieldLink RX8 71 "PieFunnelsModel" "best" "[I" ∈ fkB := fkB_in (List.mem_of_getElem? (i := 930) (by decide +kernel)) rfl
theorem f_8_71 {g : fkG} {k : fkK} {ρ : Type} {en : ρ → Option Value} {cc : ByteArray} {nL fr lo pc : Nat} {ret : Option FieldType} {lv : List (Nat × Value)} {stk : List Value} {st : fkS} {F : Option (ρ × fkS)} (hk : fk_ok wM g k RX8 cc nL ret fr lo) {i : Nat} (hi : kdM i = 8) (hdg : decode cc pc = .ok (.getfield 71, 3))
    (kk : fk_J wM g en k (pc + 3) lv (fk_r g 21 :: stk) st F) : fk_J wM g en k pc lv (fk_r g i :: stk) st F := by
  intro o ho hq
  have kk := kk o ho hq
  obtain ⟨p, l, e, R, s, m, args, below, meth, c, rv, sf⟩ := k
  obtain ⟨hx, hb, hml, hown, hts, hK, hE, hr, hlk, hinj, hfr, hlo⟩ := hk
  intro H locs ls hl hP hS
  exact va_get (D := g.2.1) (ci := 8) (C := RX8) (T := TX8) (N := 37) (v := fk_r g 21) hx hb hts wB_8 hown hK hP i (wat_8 hi) rfl 34 (by decide) (hts _ wf_8_71) (fun _ h => h) rfl hdg (kk H locs ls hl hP hS)
theorem wf_8_265 : Cond.fieldLink RX8 265 "PieFunnelsModel" "most" "I" ∈ fkB := fkB_in (List.mem_of_getElem? (i := 931) (by decide +kernel)) rfl
theorem f_8_265 {g : fkG} {k : fkK} {ρ : Type} {en : ρ → Option Value} {cc : ByteArray} {nL fr lo pc : Nat} {ret : Option FieldType} {lv : List (Nat × Value)} {stk : List Value} {st : fkS} (hk : fk_ok wM g k RX8 cc nL ret fr lo) {i : Nat} {F1 : Int32 → Option (ρ × fkS)} (hi : kdM i = 8) (hdg : decode cc pc = .ok (.getfield 265, 3))
    (kk : ∀ x, fk_J wM g en k (pc + 3) lv (.int x :: stk) st (F1 x)) : fk_J wM g en k pc lv (fk_r g i :: stk) st (fk_let (gI st 35 i) F1) := by
  intro o ho hq
  have kk := kk (gI st 35 i) o ho hq
  obtain ⟨p, l, e, R, s, m, args, below, meth, c, rv, sf⟩ := k
  obtain ⟨hx, hb, hml, hown, hts, hK, hE, hr, hlk, hinj, hfr, hlo⟩ := hk
  intro H locs ls hl hP hS
  exact va_get (D := g.2.1) (ci := 8) (C := RX8) (T := TX8) (N := 37) (v := .int (gI st 35 i)) hx hb hts wB_8 hown hK hP i (wat_8 hi) rfl 35 (by decide) (hts _ wf_8_265) (fun _ h => h) rfl hdg (kk H locs ls hl hP hS)
theorem p_8_265 {g : fkG} {k : fkK} {ρ : Type} {en : ρ → Option Value} {cc : ByteArray} {nL fr lo pc : Nat} {ret : Option FieldType} {lv : List (Nat × Value)} {stk : List Value} {st : fkS} (hk : fk_ok wM g k RX8 cc nL ret fr lo) {i : Nat} {v : Int32} {F1 : fkS → Option (ρ × fkS)} (hi : kdM i = 8) (hdg : decode cc pc = .ok (.putfield 265, 3))
    (kk : ∀ st1, fk_J wM g en k (pc + 3) lv stk st1 (F1 st1)) : fk_J wM g en k pc lv (.int v :: fk_r g i :: stk) st (fk_let (sI st 35 i v) F1) := by
  intro o ho hq
  have kk := kk (sI st 35 i v) o ho hq
  obtain ⟨p, l, e, R, s, m, args, below, meth, c, rv, sf⟩ := k
  obtain ⟨hx, hb, hml, hown, hts, hK, hE, hr, hlk, hinj, hfr, hlo⟩ := hk
  intro H locs ls hl hP hS
  refine va_put (D := g.2.1) (ci := 8) (C := RX8) (T := TX8) (N := 37) (v := .int v) (ty := .int) hx hb hts wB_8 tyX8 tyX8_ok nmX8 hown hK hP (fk_wD hinj _ _) hS i (wat_8 hi) rfl 35 (by decide) (hts _ wf_8_265) (fun _ h => h) rfl (by decide +kernel) rfl rfl (Nat.le_of_ble_eq_true rfl) hdg (fun H1 locs1 hP1 hD1 hS1 => kk H1 locs1 ls hl ?_ hS1)
  rw [← wst_8_35 hi]
  exact hP1
theorem wf_8_308 : Cond.fieldLink RX8 308 "PieFunnelsModel" "oldSeed" "I" ∈ fkB := fkB_in (List.mem_of_getElem? (i := 932) (by decide +kernel)) rfl
theorem f_8_308 {g : fkG} {k : fkK} {ρ : Type} {en : ρ → Option Value} {cc : ByteArray} {nL fr lo pc : Nat} {ret : Option FieldType} {lv : List (Nat × Value)} {stk : List Value} {st : fkS} (hk : fk_ok wM g k RX8 cc nL ret fr lo) {i : Nat} {F1 : Int32 → Option (ρ × fkS)} (hi : kdM i = 8) (hdg : decode cc pc = .ok (.getfield 308, 3))
    (kk : ∀ x, fk_J wM g en k (pc + 3) lv (.int x :: stk) st (F1 x)) : fk_J wM g en k pc lv (fk_r g i :: stk) st (fk_let (gI st 36 i) F1) := by
  intro o ho hq
  have kk := kk (gI st 36 i) o ho hq
  obtain ⟨p, l, e, R, s, m, args, below, meth, c, rv, sf⟩ := k
  obtain ⟨hx, hb, hml, hown, hts, hK, hE, hr, hlk, hinj, hfr, hlo⟩ := hk
  intro H locs ls hl hP hS
  exact va_get (D := g.2.1) (ci := 8) (C := RX8) (T := TX8) (N := 37) (v := .int (gI st 36 i)) hx hb hts wB_8 hown hK hP i (wat_8 hi) rfl 36 (by decide) (hts _ wf_8_308) (fun _ h => h) rfl hdg (kk H locs ls hl hP hS)
theorem p_8_308 {g : fkG} {k : fkK} {ρ : Type} {en : ρ → Option Value} {cc : ByteArray} {nL fr lo pc : Nat} {ret : Option FieldType} {lv : List (Nat × Value)} {stk : List Value} {st : fkS} (hk : fk_ok wM g k RX8 cc nL ret fr lo) {i : Nat} {v : Int32} {F1 : fkS → Option (ρ × fkS)} (hi : kdM i = 8) (hdg : decode cc pc = .ok (.putfield 308, 3))
    (kk : ∀ st1, fk_J wM g en k (pc + 3) lv stk st1 (F1 st1)) : fk_J wM g en k pc lv (.int v :: fk_r g i :: stk) st (fk_let (sI st 36 i v) F1) := by
  intro o ho hq
  have kk := kk (sI st 36 i v) o ho hq
  obtain ⟨p, l, e, R, s, m, args, below, meth, c, rv, sf⟩ := k
  obtain ⟨hx, hb, hml, hown, hts, hK, hE, hr, hlk, hinj, hfr, hlo⟩ := hk
  intro H locs ls hl hP hS
  refine va_put (D := g.2.1) (ci := 8) (C := RX8) (T := TX8) (N := 37) (v := .int v) (ty := .int) hx hb hts wB_8 tyX8 tyX8_ok nmX8 hown hK hP (fk_wD hinj _ _) hS i (wat_8 hi) rfl 36 (by decide) (hts _ wf_8_308) (fun _ h => h) rfl (by decide +kernel) rfl rfl (Nat.le_of_ble_eq_true rfl) hdg (fun H1 locs1 hP1 hD1 hS1 => kk H1 locs1 ls hl ?_ hS1)
  rw [← wst_8_36 hi]
  exact hP1
end
section
theorem tb_in1 {w : Cond} (h : w ∈ tables_1_1) : w ∈ lw_tbl := List.mem_append_right _ (show w ∈ tables_1 from (List.mem_append_left _ h))
theorem tb_in2 {w : Cond} (h : w ∈ tables_1_2) : w ∈ lw_tbl := List.mem_append_right _ (show w ∈ tables_1 from (List.mem_append_right _ (List.mem_append_left _ h)))
theorem tb_in3 {w : Cond} (h : w ∈ tables_1_3) : w ∈ lw_tbl := List.mem_append_right _ (show w ∈ tables_1 from (List.mem_append_right _ (List.mem_append_right _ (List.mem_append_left _ h))))
theorem tb_in4 {w : Cond} (h : w ∈ tables_1_4) : w ∈ lw_tbl := List.mem_append_right _ (show w ∈ tables_1 from (List.mem_append_right _ (List.mem_append_right _ (List.mem_append_right _ (List.mem_append_left _ h)))))
theorem tb_in5 {w : Cond} (h : w ∈ tables_1_5) : w ∈ lw_tbl := List.mem_append_right _ (show w ∈ tables_1 from (List.mem_append_right _ (List.mem_append_right _ (List.mem_append_right _ (List.mem_append_right _ (List.mem_append_left _ h))))))
theorem tb_in6 {w : Cond} (h : w ∈ tables_1_6) : w ∈ lw_tbl := List.mem_append_right _ (show w ∈ tables_1 from (List.mem_append_right _ (List.mem_append_right _ (List.mem_append_right _ (List.mem_append_right _ (List.mem_append_right _ (h)))))))
theorem wi_0 : Cond.initialized RX0 ∈ fkB := fkB_in (tb_in1 (List.mem_of_getElem? (i := 2) (by decide +kernel))) rfl
theorem wi_1 : Cond.initialized RX1 ∈ fkB := fkB_in (tb_in1 (List.mem_of_getElem? (i := 4) (by decide +kernel))) rfl
theorem wi_2 : Cond.initialized RX2 ∈ fkB := fkB_in (tb_in1 (List.mem_of_getElem? (i := 7) (by decide +kernel))) rfl
theorem wi_3 : Cond.initialized RX3 ∈ fkB := fkB_in (tb_in1 (List.mem_of_getElem? (i := 5) (by decide +kernel))) rfl
theorem wi_4 : Cond.initialized RX4 ∈ fkB := fkB_in (tb_in1 (List.mem_of_getElem? (i := 3) (by decide +kernel))) rfl
theorem wi_5 : Cond.initialized RX5 ∈ fkB := fkB_in (tb_in1 (List.mem_of_getElem? (i := 8) (by decide +kernel))) rfl
theorem wi_6 : Cond.initialized RX6 ∈ fkB := fkB_in (tb_in1 (List.mem_of_getElem? (i := 6) (by decide +kernel))) rfl
theorem wi_7 : Cond.initialized RX7 ∈ fkB := fkB_in (tb_in1 (List.mem_of_getElem? (i := 1) (by decide +kernel))) rfl
theorem wi_8 : Cond.initialized RX8 ∈ fkB := fkB_in (tb_in1 (List.mem_of_getElem? (i := 9) (by decide +kernel))) rfl
theorem yv_X0_become : fk_yV yX0_become cX0_become 2 none 1 := ⟨⟨fkB_in (tb_in2 (List.mem_of_getElem? (i := 213) (by decide +kernel))) rfl, fkB_in (List.mem_append_left _ (List.mem_of_getElem? (i := 26) (by decide +kernel))) rfl⟩, wi_0, fkB_in (tb_in2 (List.mem_of_getElem? (i := 214) rfl)) rfl, by decide +kernel⟩
theorem yv_X0_lacks : fk_yV yX0_lacks cX0_lacks 2 (some (.boolean)) 1 := ⟨⟨fkB_in (tb_in2 (List.mem_of_getElem? (i := 102) (by decide +kernel))) rfl, fkB_in (List.mem_append_left _ (List.mem_of_getElem? (i := 9) (by decide +kernel))) rfl⟩, wi_0, fkB_in (tb_in2 (List.mem_of_getElem? (i := 103) rfl)) rfl, by decide +kernel⟩
theorem yv_X0_add : fk_yV yX0_add cX0_add 4 none 3 := ⟨⟨fkB_in (tb_in2 (List.mem_of_getElem? (i := 180) (by decide +kernel))) rfl, fkB_in (List.mem_append_left _ (List.mem_of_getElem? (i := 23) (by decide +kernel))) rfl⟩, wi_0, fkB_in (tb_in2 (List.mem_of_getElem? (i := 181) rfl)) rfl, by decide +kernel⟩
theorem yv_X0_comingBy : fk_yV yX0_comingBy cX0_comingBy 3 (some (.int)) 2 := ⟨⟨fkB_in (tb_in2 (List.mem_of_getElem? (i := 192) (by decide +kernel))) rfl, fkB_in (List.mem_append_left _ (List.mem_of_getElem? (i := 24) (by decide +kernel))) rfl⟩, wi_0, fkB_in (tb_in2 (List.mem_of_getElem? (i := 193) rfl)) rfl, by decide +kernel⟩
theorem yv_X0_setComing : fk_yV yX0_setComing cX0_setComing 4 none 3 := ⟨⟨fkB_in (tb_in2 (List.mem_of_getElem? (i := 196) (by decide +kernel))) rfl, fkB_in (List.mem_append_left _ (List.mem_of_getElem? (i := 25) (by decide +kernel))) rfl⟩, wi_0, fkB_in (tb_in2 (List.mem_of_getElem? (i := 197) rfl)) rfl, by decide +kernel⟩
theorem yv_X0_endOf : fk_yV yX0_endOf cX0_endOf 5 (some (.int)) 2 := ⟨⟨fkB_in (tb_in3 (List.mem_of_getElem? (i := 110) (by decide +kernel))) rfl, fkB_in (List.mem_append_left _ (List.mem_of_getElem? (i := 39) (by decide +kernel))) rfl⟩, wi_0, fkB_in (tb_in3 (List.mem_of_getElem? (i := 111) rfl)) rfl, by decide +kernel⟩
theorem yv_X0_illsOf : fk_yV yX0_illsOf cX0_illsOf 5 (some (.int)) 1 := ⟨⟨fkB_in (tb_in3 (List.mem_of_getElem? (i := 114) (by decide +kernel))) rfl, fkB_in (List.mem_append_left _ (List.mem_of_getElem? (i := 40) (by decide +kernel))) rfl⟩, wi_0, fkB_in (tb_in3 (List.mem_of_getElem? (i := 115) rfl)) rfl, by decide +kernel⟩
theorem yv_X0_draw : fk_yV yX0_draw cX0_draw 2 (some (.int)) 1 := ⟨⟨fkB_in (tb_in4 (List.mem_of_getElem? (i := 12) (by decide +kernel))) rfl, fkB_in (List.mem_append_left _ (List.mem_of_getElem? (i := 58) (by decide +kernel))) rfl⟩, wi_0, fkB_in (tb_in4 (List.mem_of_getElem? (i := 13) rfl)) rfl, by decide +kernel⟩
theorem yv_X1_forget : fk_yV yX1_forget cX1_forget 1 none 0 := ⟨⟨fkB_in (tb_in4 (List.mem_of_getElem? (i := 25) (by decide +kernel))) rfl, fkB_in (List.mem_append_left _ (List.mem_of_getElem? (i := 59) (by decide +kernel))) rfl⟩, wi_1, fkB_in (tb_in4 (List.mem_of_getElem? (i := 26) rfl)) rfl, by decide +kernel⟩
theorem yv_X1_take : fk_yV yX1_take cX1_take 3 none 2 := ⟨⟨fkB_in (tb_in4 (List.mem_of_getElem? (i := 29) (by decide +kernel))) rfl, fkB_in (List.mem_append_left _ (List.mem_of_getElem? (i := 60) (by decide +kernel))) rfl⟩, wi_1, fkB_in (tb_in4 (List.mem_of_getElem? (i := 30) rfl)) rfl, by decide +kernel⟩
theorem yv_X1_traced : fk_yV yX1_traced cX1_traced 1 (some (.int)) 0 := ⟨⟨fkB_in (tb_in4 (List.mem_of_getElem? (i := 52) (by decide +kernel))) rfl, fkB_in (List.mem_append_left _ (List.mem_of_getElem? (i := 62) (by decide +kernel))) rfl⟩, wi_1, fkB_in (tb_in4 (List.mem_of_getElem? (i := 53) rfl)) rfl, by decide +kernel⟩
theorem yv_X1_begin : fk_yV yX1_begin cX1_begin 2 none 1 := ⟨⟨fkB_in (tb_in4 (List.mem_of_getElem? (i := 43) (by decide +kernel))) rfl, fkB_in (List.mem_append_left _ (List.mem_of_getElem? (i := 61) (by decide +kernel))) rfl⟩, wi_1, fkB_in (tb_in4 (List.mem_of_getElem? (i := 44) rfl)) rfl, by decide +kernel⟩
theorem yv_X1_bodyFrom : fk_yS yX1_bodyFrom cX1_bodyFrom 5 (some (.int)) 2 := ⟨fkB_in (tb_in4 (List.mem_of_getElem? (i := 36) (by decide +kernel))) rfl, wi_1, fkB_in (tb_in4 (List.mem_of_getElem? (i := 37) rfl)) rfl, by decide +kernel⟩
theorem yv_X1_run : fk_yS yX1_run cX1_run 7 (some (.int)) 5 := ⟨fkB_in (tb_in4 (List.mem_of_getElem? (i := 33) (by decide +kernel))) rfl, wi_1, fkB_in (tb_in4 (List.mem_of_getElem? (i := 34) rfl)) rfl, by decide +kernel⟩
theorem yv_X2_takeWishes : fk_yV yX2_takeWishes cX2_takeWishes 4 (some (.boolean)) 1 := ⟨⟨fkB_in (tb_in3 (List.mem_of_getElem? (i := 210) (by decide +kernel))) rfl, fkB_in (List.mem_append_left _ (List.mem_of_getElem? (i := 52) (by decide +kernel))) rfl⟩, wi_2, fkB_in (tb_in3 (List.mem_of_getElem? (i := 211) rfl)) rfl, by decide +kernel⟩
theorem yv_X2_bringsOf : fk_yV yX2_bringsOf cX2_bringsOf 3 none 2 := ⟨⟨fkB_in (tb_in3 (List.mem_of_getElem? (i := 215) (by decide +kernel))) rfl, fkB_in (List.mem_append_left _ (List.mem_of_getElem? (i := 53) (by decide +kernel))) rfl⟩, wi_2, fkB_in (tb_in3 (List.mem_of_getElem? (i := 216) rfl)) rfl, by decide +kernel⟩
theorem yv_X2_part : fk_yV yX2_part cX2_part 3 none 1 := ⟨⟨fkB_in (tb_in3 (List.mem_of_getElem? (i := 219) (by decide +kernel))) rfl, fkB_in (List.mem_append_left _ (List.mem_of_getElem? (i := 54) (by decide +kernel))) rfl⟩, wi_2, fkB_in (tb_in3 (List.mem_of_getElem? (i := 220) rfl)) rfl, by decide +kernel⟩
theorem yv_X2_firstLeft : fk_yV yX2_firstLeft cX2_firstLeft 4 (some (.int)) 2 := ⟨⟨fkB_in (tb_in3 (List.mem_of_getElem? (i := 223) (by decide +kernel))) rfl, fkB_in (List.mem_append_left _ (List.mem_of_getElem? (i := 55) (by decide +kernel))) rfl⟩, wi_2, fkB_in (tb_in3 (List.mem_of_getElem? (i := 224) rfl)) rfl, by decide +kernel⟩
theorem yv_X2_whomHas : fk_yV yX2_whomHas cX2_whomHas 2 (some (.int)) 1 := ⟨⟨fkB_in (tb_in3 (List.mem_of_getElem? (i := 227) (by decide +kernel))) rfl, fkB_in (List.mem_append_left _ (List.mem_of_getElem? (i := 56) (by decide +kernel))) rfl⟩, wi_2, fkB_in (tb_in3 (List.mem_of_getElem? (i := 228) rfl)) rfl, by decide +kernel⟩
theorem yv_X3_take : fk_yV yX3_take cX3_take 5 (some (.boolean)) 2 := ⟨⟨fkB_in (tb_in3 (List.mem_of_getElem? (i := 97) (by decide +kernel))) rfl, fkB_in (List.mem_append_left _ (List.mem_of_getElem? (i := 37) (by decide +kernel))) rfl⟩, wi_3, fkB_in (tb_in3 (List.mem_of_getElem? (i := 98) rfl)) rfl, by decide +kernel⟩
theorem yv_X3_setByNumber : fk_yV yX3_setByNumber cX3_setByNumber 5 none 2 := ⟨⟨fkB_in (tb_in2 (List.mem_of_getElem? (i := 132) (by decide +kernel))) rfl, fkB_in (List.mem_append_left _ (List.mem_of_getElem? (i := 13) (by decide +kernel))) rfl⟩, wi_3, fkB_in (tb_in2 (List.mem_of_getElem? (i := 133) rfl)) rfl, by decide +kernel⟩
theorem yv_X3_setLast : fk_yV yX3_setLast cX3_setLast 2 none 1 := ⟨⟨fkB_in (tb_in3 (List.mem_of_getElem? (i := 201) (by decide +kernel))) rfl, fkB_in (List.mem_append_left _ (List.mem_of_getElem? (i := 51) (by decide +kernel))) rfl⟩, wi_3, fkB_in (tb_in3 (List.mem_of_getElem? (i := 202) rfl)) rfl, by decide +kernel⟩
theorem yv_X3_unknowns : fk_yV yX3_unknowns cX3_unknowns 3 (some (.int)) 0 := ⟨⟨fkB_in (tb_in3 (List.mem_of_getElem? (i := 175) (by decide +kernel))) rfl, fkB_in (List.mem_append_left _ (List.mem_of_getElem? (i := 48) (by decide +kernel))) rfl⟩, wi_3, fkB_in (tb_in3 (List.mem_of_getElem? (i := 176) rfl)) rfl, by decide +kernel⟩
theorem yv_X3_fillUnknowns : fk_yV yX3_fillUnknowns cX3_fillUnknowns 4 none 1 := ⟨⟨fkB_in (tb_in3 (List.mem_of_getElem? (i := 179) (by decide +kernel))) rfl, fkB_in (List.mem_append_left _ (List.mem_of_getElem? (i := 49) (by decide +kernel))) rfl⟩, wi_3, fkB_in (tb_in3 (List.mem_of_getElem? (i := 180) rfl)) rfl, by decide +kernel⟩
theorem yv_X4_read : fk_yV yX4_read cX4_read 4 (some (.int)) 2 := ⟨⟨fkB_in (tb_in2 (List.mem_of_getElem? (i := 218) (by decide +kernel))) rfl, fkB_in (List.mem_append_left _ (List.mem_of_getElem? (i := 27) (by decide +kernel))) rfl⟩, wi_4, fkB_in (tb_in2 (List.mem_of_getElem? (i := 219) rfl)) rfl, by decide +kernel⟩
theorem yv_X4_readItem : fk_yV yX4_readItem cX4_readItem 6 none 1 := ⟨⟨fkB_in (tb_in2 (List.mem_of_getElem? (i := 234) (by decide +kernel))) rfl, fkB_in (List.mem_append_left _ (List.mem_of_getElem? (i := 31) (by decide +kernel))) rfl⟩, wi_4, fkB_in (tb_in2 (List.mem_of_getElem? (i := 235) rfl)) rfl, by decide +kernel⟩
theorem yv_X4_tell : fk_yV yX4_tell cX4_tell 3 none 2 := ⟨⟨fkB_in (tb_in3 (List.mem_of_getElem? (i := 74) (by decide +kernel))) rfl, fkB_in (List.mem_append_left _ (List.mem_of_getElem? (i := 34) (by decide +kernel))) rfl⟩, wi_4, fkB_in (tb_in3 (List.mem_of_getElem? (i := 75) rfl)) rfl, by decide +kernel⟩
theorem yv_X4_wordThatBeginsWith : fk_yS yX4_wordThatBeginsWith cX4_wordThatBeginsWith 1 (some (.object "java/lang/String")) 1 := ⟨fkB_in (tb_in2 (List.mem_of_getElem? (i := 237) (by decide +kernel))) rfl, wi_4, fkB_in (tb_in2 (List.mem_of_getElem? (i := 238) rfl)) rfl, by decide +kernel⟩
theorem yv_X4_numbersBehind : fk_yS yX4_numbersBehind cX4_numbersBehind 1 (some (.int)) 1 := ⟨fkB_in (tb_in3 (List.mem_of_getElem? (i := 59) (by decide +kernel))) rfl, wi_4, fkB_in (tb_in3 (List.mem_of_getElem? (i := 60) rfl)) rfl, by decide +kernel⟩
theorem yv_X4_most : fk_yS yX4_most cX4_most 2 (some (.int)) 2 := ⟨fkB_in (tb_in3 (List.mem_of_getElem? (i := 62) (by decide +kernel))) rfl, wi_4, fkB_in (tb_in3 (List.mem_of_getElem? (i := 63) rfl)) rfl, by decide +kernel⟩
theorem yv_X4_readNumber : fk_yV yX4_readNumber cX4_readNumber 5 (some (.int)) 1 := ⟨⟨fkB_in (tb_in3 (List.mem_of_getElem? (i := 66) (by decide +kernel))) rfl, fkB_in (List.mem_append_left _ (List.mem_of_getElem? (i := 32) (by decide +kernel))) rfl⟩, wi_4, fkB_in (tb_in3 (List.mem_of_getElem? (i := 67) rfl)) rfl, by decide +kernel⟩
theorem yv_X4_digit : fk_yV yX4_digit cX4_digit 2 (some (.int)) 0 := ⟨⟨fkB_in (tb_in3 (List.mem_of_getElem? (i := 70) (by decide +kernel))) rfl, fkB_in (List.mem_append_left _ (List.mem_of_getElem? (i := 33) (by decide +kernel))) rfl⟩, wi_4, fkB_in (tb_in3 (List.mem_of_getElem? (i := 71) rfl)) rfl, by decide +kernel⟩
theorem yv_X4_letter : fk_yV yX4_letter cX4_letter 1 (some (.int)) 0 := ⟨⟨fkB_in (tb_in2 (List.mem_of_getElem? (i := 226) (by decide +kernel))) rfl, fkB_in (List.mem_append_left _ (List.mem_of_getElem? (i := 29) (by decide +kernel))) rfl⟩, wi_4, fkB_in (tb_in2 (List.mem_of_getElem? (i := 227) rfl)) rfl, by decide +kernel⟩
theorem yv_X4_expect : fk_yV yX4_expect cX4_expect 2 none 1 := ⟨⟨fkB_in (tb_in2 (List.mem_of_getElem? (i := 222) (by decide +kernel))) rfl, fkB_in (List.mem_append_left _ (List.mem_of_getElem? (i := 28) (by decide +kernel))) rfl⟩, wi_4, fkB_in (tb_in2 (List.mem_of_getElem? (i := 223) rfl)) rfl, by decide +kernel⟩
theorem yv_X4_fail : fk_yV yX4_fail cX4_fail 2 none 1 := ⟨⟨fkB_in (tb_in2 (List.mem_of_getElem? (i := 230) (by decide +kernel))) rfl, fkB_in (List.mem_append_left _ (List.mem_of_getElem? (i := 30) (by decide +kernel))) rfl⟩, wi_4, fkB_in (tb_in2 (List.mem_of_getElem? (i := 231) rfl)) rfl, by decide +kernel⟩
theorem yv_X5_holdNothing : fk_yV yX5_holdNothing cX5_holdNothing 1 none 0 := ⟨⟨fkB_in (tb_in2 (List.mem_of_getElem? (i := 98) (by decide +kernel))) rfl, fkB_in (List.mem_append_left _ (List.mem_of_getElem? (i := 8) (by decide +kernel))) rfl⟩, wi_5, fkB_in (tb_in2 (List.mem_of_getElem? (i := 99) rfl)) rfl, by decide +kernel⟩
theorem yv_X5_holdBird : fk_yV yX5_holdBird cX5_holdBird 2 none 1 := ⟨⟨fkB_in (tb_in2 (List.mem_of_getElem? (i := 106) (by decide +kernel))) rfl, fkB_in (List.mem_append_left _ (List.mem_of_getElem? (i := 10) (by decide +kernel))) rfl⟩, wi_5, fkB_in (tb_in2 (List.mem_of_getElem? (i := 107) rfl)) rfl, by decide +kernel⟩
theorem yv_X5_holdRow : fk_yV yX5_holdRow cX5_holdRow 4 none 2 := ⟨⟨fkB_in (tb_in2 (List.mem_of_getElem? (i := 49) (by decide +kernel))) rfl, fkB_in (List.mem_append_left _ (List.mem_of_getElem? (i := 2) (by decide +kernel))) rfl⟩, wi_5, fkB_in (tb_in2 (List.mem_of_getElem? (i := 50) rfl)) rfl, by decide +kernel⟩
theorem yv_X5_put : fk_yV yX5_put cX5_put 4 none 2 := ⟨⟨fkB_in (tb_in2 (List.mem_of_getElem? (i := 71) (by decide +kernel))) rfl, fkB_in (List.mem_append_left _ (List.mem_of_getElem? (i := 5) (by decide +kernel))) rfl⟩, wi_5, fkB_in (tb_in2 (List.mem_of_getElem? (i := 72) rfl)) rfl, by decide +kernel⟩
theorem yv_X5_whole : fk_yV yX5_whole cX5_whole 2 (some (.long)) 1 := ⟨⟨fkB_in (tb_in2 (List.mem_of_getElem? (i := 90) (by decide +kernel))) rfl, fkB_in (List.mem_append_left _ (List.mem_of_getElem? (i := 7) (by decide +kernel))) rfl⟩, wi_5, fkB_in (tb_in2 (List.mem_of_getElem? (i := 91) rfl)) rfl, by decide +kernel⟩
theorem yv_X5_number : fk_yV yX5_number cX5_number 2 (some (.int)) 1 := ⟨⟨fkB_in (tb_in3 (List.mem_of_getElem? (i := 101) (by decide +kernel))) rfl, fkB_in (List.mem_append_left _ (List.mem_of_getElem? (i := 38) (by decide +kernel))) rfl⟩, wi_5, fkB_in (tb_in3 (List.mem_of_getElem? (i := 102) rfl)) rfl, by decide +kernel⟩
theorem yv_X5_hasSpan : fk_yV yX5_hasSpan cX5_hasSpan 3 (some (.boolean)) 2 := ⟨⟨fkB_in (tb_in2 (List.mem_of_getElem? (i := 79) (by decide +kernel))) rfl, fkB_in (List.mem_append_left _ (List.mem_of_getElem? (i := 6) (by decide +kernel))) rfl⟩, wi_5, fkB_in (tb_in2 (List.mem_of_getElem? (i := 80) rfl)) rfl, by decide +kernel⟩
theorem yv_X6_take : fk_yV yX6_take cX6_take 3 none 2 := ⟨⟨fkB_in (tb_in2 (List.mem_of_getElem? (i := 127) (by decide +kernel))) rfl, fkB_in (List.mem_append_left _ (List.mem_of_getElem? (i := 12) (by decide +kernel))) rfl⟩, wi_6, fkB_in (tb_in2 (List.mem_of_getElem? (i := 128) rfl)) rfl, by decide +kernel⟩
theorem yv_X6_speak : fk_yV yX6_speak cX6_speak 2 none 1 := ⟨⟨fkB_in (tb_in2 (List.mem_of_getElem? (i := 138) (by decide +kernel))) rfl, fkB_in (List.mem_append_left _ (List.mem_of_getElem? (i := 14) (by decide +kernel))) rfl⟩, wi_6, fkB_in (tb_in2 (List.mem_of_getElem? (i := 139) rfl)) rfl, by decide +kernel⟩
theorem yv_X6_sayLayers : fk_yV yX6_sayLayers cX6_sayLayers 3 none 1 := ⟨⟨fkB_in (tb_in2 (List.mem_of_getElem? (i := 142) (by decide +kernel))) rfl, fkB_in (List.mem_append_left _ (List.mem_of_getElem? (i := 15) (by decide +kernel))) rfl⟩, wi_6, fkB_in (tb_in2 (List.mem_of_getElem? (i := 143) rfl)) rfl, by decide +kernel⟩
theorem yv_X6_chip : fk_yV yX6_chip cX6_chip 2 none 0 := ⟨⟨fkB_in (tb_in2 (List.mem_of_getElem? (i := 148) (by decide +kernel))) rfl, fkB_in (List.mem_append_left _ (List.mem_of_getElem? (i := 16) (by decide +kernel))) rfl⟩, wi_6, fkB_in (tb_in2 (List.mem_of_getElem? (i := 149) rfl)) rfl, by decide +kernel⟩
theorem yv_X6_raise : fk_yV yX6_raise cX6_raise 2 none 0 := ⟨⟨fkB_in (tb_in2 (List.mem_of_getElem? (i := 160) (by decide +kernel))) rfl, fkB_in (List.mem_append_left _ (List.mem_of_getElem? (i := 19) (by decide +kernel))) rfl⟩, wi_6, fkB_in (tb_in2 (List.mem_of_getElem? (i := 161) rfl)) rfl, by decide +kernel⟩
theorem yv_X6_keepEachSecond : fk_yV yX6_keepEachSecond cX6_keepEachSecond 2 none 0 := ⟨⟨fkB_in (tb_in2 (List.mem_of_getElem? (i := 172) (by decide +kernel))) rfl, fkB_in (List.mem_append_left _ (List.mem_of_getElem? (i := 22) (by decide +kernel))) rfl⟩, wi_6, fkB_in (tb_in2 (List.mem_of_getElem? (i := 173) rfl)) rfl, by decide +kernel⟩
theorem yv_X6_turn : fk_yV yX6_turn cX6_turn 2 none 0 := ⟨⟨fkB_in (tb_in2 (List.mem_of_getElem? (i := 152) (by decide +kernel))) rfl, fkB_in (List.mem_append_left _ (List.mem_of_getElem? (i := 17) (by decide +kernel))) rfl⟩, wi_6, fkB_in (tb_in2 (List.mem_of_getElem? (i := 153) rfl)) rfl, by decide +kernel⟩
theorem yv_X6_doubleEach : fk_yV yX6_doubleEach cX6_doubleEach 2 none 0 := ⟨⟨fkB_in (tb_in2 (List.mem_of_getElem? (i := 168) (by decide +kernel))) rfl, fkB_in (List.mem_append_left _ (List.mem_of_getElem? (i := 21) (by decide +kernel))) rfl⟩, wi_6, fkB_in (tb_in2 (List.mem_of_getElem? (i := 169) rfl)) rfl, by decide +kernel⟩
theorem yv_X6_order : fk_yV yX6_order cX6_order 3 none 0 := ⟨⟨fkB_in (tb_in2 (List.mem_of_getElem? (i := 164) (by decide +kernel))) rfl, fkB_in (List.mem_append_left _ (List.mem_of_getElem? (i := 20) (by decide +kernel))) rfl⟩, wi_6, fkB_in (tb_in2 (List.mem_of_getElem? (i := 165) rfl)) rfl, by decide +kernel⟩
theorem yv_X6_swap : fk_yV yX6_swap cX6_swap 4 none 2 := ⟨⟨fkB_in (tb_in2 (List.mem_of_getElem? (i := 156) (by decide +kernel))) rfl, fkB_in (List.mem_append_left _ (List.mem_of_getElem? (i := 18) (by decide +kernel))) rfl⟩, wi_6, fkB_in (tb_in2 (List.mem_of_getElem? (i := 157) rfl)) rfl, by decide +kernel⟩
theorem yv_X6_saysJust : fk_yV yX6_saysJust cX6_saysJust 3 (some (.boolean)) 1 := ⟨⟨fkB_in (tb_in3 (List.mem_of_getElem? (i := 141) (by decide +kernel))) rfl, fkB_in (List.mem_append_left _ (List.mem_of_getElem? (i := 43) (by decide +kernel))) rfl⟩, wi_6, fkB_in (tb_in3 (List.mem_of_getElem? (i := 142) rfl)) rfl, by decide +kernel⟩
theorem yv_X6_saysSame : fk_yV yX6_saysSame cX6_saysSame 3 (some (.boolean)) 1 := ⟨⟨fkB_in (tb_in3 (List.mem_of_getElem? (i := 166) (by decide +kernel))) rfl, fkB_in (List.mem_append_left _ (List.mem_of_getElem? (i := 47) (by decide +kernel))) rfl⟩, wi_6, fkB_in (tb_in3 (List.mem_of_getElem? (i := 167) rfl)) rfl, by decide +kernel⟩
theorem yv_X7_row : fk_yV yX7_row cX7_row 4 (some (.int)) 3 := ⟨⟨fkB_in (tb_in2 (List.mem_of_getElem? (i := 36) (by decide +kernel))) rfl, fkB_in (tb_in2 (List.mem_of_getElem? (i := 37) (by decide +kernel))) rfl⟩, wi_7, fkB_in (tb_in2 (List.mem_of_getElem? (i := 38) rfl)) rfl, by decide +kernel⟩
theorem yv_X7_set : fk_yV yX7_set cX7_set 6 (some (.int)) 3 := ⟨⟨fkB_in (tb_in2 (List.mem_of_getElem? (i := 58) (by decide +kernel))) rfl, fkB_in (tb_in2 (List.mem_of_getElem? (i := 59) (by decide +kernel))) rfl⟩, wi_7, fkB_in (tb_in2 (List.mem_of_getElem? (i := 60) rfl)) rfl, by decide +kernel⟩
theorem yv_X7_copy : fk_yV yX7_copy cX7_copy 7 (some (.int)) 5 := ⟨⟨fkB_in (tb_in2 (List.mem_of_getElem? (i := 74) (by decide +kernel))) rfl, fkB_in (tb_in2 (List.mem_of_getElem? (i := 75) (by decide +kernel))) rfl⟩, wi_7, fkB_in (tb_in2 (List.mem_of_getElem? (i := 76) rfl)) rfl, by decide +kernel⟩
theorem yv_X7_element : fk_yV yX7_element cX7_element 3 (some (.long)) 2 := ⟨⟨fkB_in (tb_in2 (List.mem_of_getElem? (i := 85) (by decide +kernel))) rfl, fkB_in (tb_in2 (List.mem_of_getElem? (i := 86) (by decide +kernel))) rfl⟩, wi_7, fkB_in (tb_in2 (List.mem_of_getElem? (i := 87) rfl)) rfl, by decide +kernel⟩
theorem yv_X7_show : fk_yV yX7_show cX7_show 3 (some (.int)) 2 := ⟨⟨fkB_in (tb_in2 (List.mem_of_getElem? (i := 93) (by decide +kernel))) rfl, fkB_in (tb_in2 (List.mem_of_getElem? (i := 94) (by decide +kernel))) rfl⟩, wi_7, fkB_in (tb_in2 (List.mem_of_getElem? (i := 95) rfl)) rfl, by decide +kernel⟩
theorem yv_X7_holds : fk_yV yX7_holds cX7_holds 2 (some (.int)) 1 := ⟨⟨fkB_in (tb_in2 (List.mem_of_getElem? (i := 109) (by decide +kernel))) rfl, fkB_in (tb_in2 (List.mem_of_getElem? (i := 110) (by decide +kernel))) rfl⟩, wi_7, fkB_in (tb_in2 (List.mem_of_getElem? (i := 111) rfl)) rfl, by decide +kernel⟩
theorem yv_X7_says : fk_yV yX7_says cX7_says 4 (some (.int)) 2 := ⟨⟨fkB_in (tb_in2 (List.mem_of_getElem? (i := 113) (by decide +kernel))) rfl, fkB_in (tb_in2 (List.mem_of_getElem? (i := 114) (by decide +kernel))) rfl⟩, wi_7, fkB_in (tb_in2 (List.mem_of_getElem? (i := 115) rfl)) rfl, by decide +kernel⟩
theorem yv_X7_bird : fk_yV yX7_bird cX7_bird 4 (some (.int)) 3 := ⟨⟨fkB_in (tb_in2 (List.mem_of_getElem? (i := 175) (by decide +kernel))) rfl, fkB_in (tb_in2 (List.mem_of_getElem? (i := 176) (by decide +kernel))) rfl⟩, wi_7, fkB_in (tb_in2 (List.mem_of_getElem? (i := 177) rfl)) rfl, by decide +kernel⟩
theorem yv_X7_ask : fk_yV yX7_ask cX7_ask 4 (some (.int)) 2 := ⟨⟨fkB_in (tb_in2 (List.mem_of_getElem? (i := 183) (by decide +kernel))) rfl, fkB_in (tb_in2 (List.mem_of_getElem? (i := 184) (by decide +kernel))) rfl⟩, wi_7, fkB_in (tb_in2 (List.mem_of_getElem? (i := 185) rfl)) rfl, by decide +kernel⟩
theorem yv_X7_table : fk_yV yX7_table cX7_table 5 (some (.int)) 3 := ⟨⟨fkB_in (tb_in2 (List.mem_of_getElem? (i := 187) (by decide +kernel))) rfl, fkB_in (tb_in2 (List.mem_of_getElem? (i := 188) (by decide +kernel))) rfl⟩, wi_7, fkB_in (tb_in2 (List.mem_of_getElem? (i := 189) rfl)) rfl, by decide +kernel⟩
theorem yv_X7_comes : fk_yV yX7_comes cX7_comes 4 (some (.int)) 2 := ⟨⟨fkB_in (tb_in2 (List.mem_of_getElem? (i := 200) (by decide +kernel))) rfl, fkB_in (tb_in2 (List.mem_of_getElem? (i := 201) (by decide +kernel))) rfl⟩, wi_7, fkB_in (tb_in2 (List.mem_of_getElem? (i := 202) rfl)) rfl, by decide +kernel⟩
theorem yv_X7_birdOf : fk_yV yX7_birdOf cX7_birdOf 3 (some (.int)) 2 := ⟨⟨fkB_in (tb_in2 (List.mem_of_getElem? (i := 204) (by decide +kernel))) rfl, fkB_in (tb_in2 (List.mem_of_getElem? (i := 205) (by decide +kernel))) rfl⟩, wi_7, fkB_in (tb_in2 (List.mem_of_getElem? (i := 206) rfl)) rfl, by decide +kernel⟩
theorem yv_X7_bakery : fk_yV yX7_bakery cX7_bakery 4 (some (.int)) 1 := ⟨⟨fkB_in (tb_in2 (List.mem_of_getElem? (i := 208) (by decide +kernel))) rfl, fkB_in (tb_in2 (List.mem_of_getElem? (i := 209) (by decide +kernel))) rfl⟩, wi_7, fkB_in (tb_in2 (List.mem_of_getElem? (i := 210) rfl)) rfl, by decide +kernel⟩
theorem yv_X7_fault : fk_yV yX7_fault cX7_fault 1 (some (.int)) 0 := ⟨⟨fkB_in (tb_in3 (List.mem_of_getElem? (i := 80) (by decide +kernel))) rfl, fkB_in (tb_in3 (List.mem_of_getElem? (i := 81) (by decide +kernel))) rfl⟩, wi_7, fkB_in (tb_in3 (List.mem_of_getElem? (i := 82) rfl)) rfl, by decide +kernel⟩
theorem yv_X7_said : fk_yV yX7_said cX7_said 5 (some (.int)) 3 := ⟨⟨fkB_in (tb_in3 (List.mem_of_getElem? (i := 84) (by decide +kernel))) rfl, fkB_in (tb_in3 (List.mem_of_getElem? (i := 85) (by decide +kernel))) rfl⟩, wi_7, fkB_in (tb_in3 (List.mem_of_getElem? (i := 86) rfl)) rfl, by decide +kernel⟩
theorem yv_X7_brings : fk_yV yX7_brings cX7_brings 5 (some (.int)) 3 := ⟨⟨fkB_in (tb_in3 (List.mem_of_getElem? (i := 105) (by decide +kernel))) rfl, fkB_in (tb_in3 (List.mem_of_getElem? (i := 106) (by decide +kernel))) rfl⟩, wi_7, fkB_in (tb_in3 (List.mem_of_getElem? (i := 107) rfl)) rfl, by decide +kernel⟩
theorem yv_X7_soonest : fk_yV yX7_soonest cX7_soonest 6 (some (.int)) 3 := ⟨⟨fkB_in (tb_in3 (List.mem_of_getElem? (i := 117) (by decide +kernel))) rfl, fkB_in (tb_in3 (List.mem_of_getElem? (i := 118) (by decide +kernel))) rfl⟩, wi_7, fkB_in (tb_in3 (List.mem_of_getElem? (i := 119) rfl)) rfl, by decide +kernel⟩
theorem yv_X7_safe : fk_yV yX7_safe cX7_safe 4 (some (.int)) 1 := ⟨⟨fkB_in (tb_in3 (List.mem_of_getElem? (i := 128) (by decide +kernel))) rfl, fkB_in (tb_in3 (List.mem_of_getElem? (i := 129) (by decide +kernel))) rfl⟩, wi_7, fkB_in (tb_in3 (List.mem_of_getElem? (i := 130) rfl)) rfl, by decide +kernel⟩
theorem yv_X7_fits : fk_yV yX7_fits cX7_fits 6 (some (.int)) 4 := ⟨⟨fkB_in (tb_in3 (List.mem_of_getElem? (i := 132) (by decide +kernel))) rfl, fkB_in (tb_in3 (List.mem_of_getElem? (i := 133) (by decide +kernel))) rfl⟩, wi_7, fkB_in (tb_in3 (List.mem_of_getElem? (i := 134) rfl)) rfl, by decide +kernel⟩
theorem yv_X7_pies : fk_yV yX7_pies cX7_pies 8 (some (.int)) 4 := ⟨⟨fkB_in (tb_in3 (List.mem_of_getElem? (i := 153) (by decide +kernel))) rfl, fkB_in (tb_in3 (List.mem_of_getElem? (i := 154) (by decide +kernel))) rfl⟩, wi_7, fkB_in (tb_in3 (List.mem_of_getElem? (i := 155) rfl)) rfl, by decide +kernel⟩
theorem yv_X7_next : fk_yV yX7_next cX7_next 6 (some (.int)) 1 := ⟨⟨fkB_in (tb_in3 (List.mem_of_getElem? (i := 157) (by decide +kernel))) rfl, fkB_in (tb_in3 (List.mem_of_getElem? (i := 158) (by decide +kernel))) rfl⟩, wi_7, fkB_in (tb_in3 (List.mem_of_getElem? (i := 159) rfl)) rfl, by decide +kernel⟩
theorem yv_X7_chance : fk_yV yX7_chance cX7_chance 9 (some (.int)) 4 := ⟨⟨fkB_in (tb_in3 (List.mem_of_getElem? (i := 170) (by decide +kernel))) rfl, fkB_in (tb_in3 (List.mem_of_getElem? (i := 171) (by decide +kernel))) rfl⟩, wi_7, fkB_in (tb_in3 (List.mem_of_getElem? (i := 172) rfl)) rfl, by decide +kernel⟩
theorem yv_X7_minutes : fk_yV yX7_minutes cX7_minutes 5 (some (.int)) 2 := ⟨⟨fkB_in (tb_in3 (List.mem_of_getElem? (i := 183) (by decide +kernel))) rfl, fkB_in (tb_in3 (List.mem_of_getElem? (i := 184) (by decide +kernel))) rfl⟩, wi_7, fkB_in (tb_in3 (List.mem_of_getElem? (i := 185) rfl)) rfl, by decide +kernel⟩
theorem yv_X7_after : fk_yV yX7_after cX7_after 7 (some (.int)) 3 := ⟨⟨fkB_in (tb_in3 (List.mem_of_getElem? (i := 187) (by decide +kernel))) rfl, fkB_in (tb_in3 (List.mem_of_getElem? (i := 188) (by decide +kernel))) rfl⟩, wi_7, fkB_in (tb_in3 (List.mem_of_getElem? (i := 189) rfl)) rfl, by decide +kernel⟩
theorem yv_X7_kings : fk_yV yX7_kings cX7_kings 9 (some (.int)) 3 := ⟨⟨fkB_in (tb_in3 (List.mem_of_getElem? (i := 191) (by decide +kernel))) rfl, fkB_in (tb_in3 (List.mem_of_getElem? (i := 192) (by decide +kernel))) rfl⟩, wi_7, fkB_in (tb_in3 (List.mem_of_getElem? (i := 193) rfl)) rfl, by decide +kernel⟩
theorem yv_X7_tribes : fk_yV yX7_tribes cX7_tribes 6 (some (.int)) 3 := ⟨⟨fkB_in (tb_in3 (List.mem_of_getElem? (i := 205) (by decide +kernel))) rfl, fkB_in (tb_in3 (List.mem_of_getElem? (i := 206) (by decide +kernel))) rfl⟩, wi_7, fkB_in (tb_in3 (List.mem_of_getElem? (i := 207) rfl)) rfl, by decide +kernel⟩
theorem yv_X7_alike : fk_yV yX7_alike cX7_alike 5 (some (.int)) 2 := ⟨⟨fkB_in (tb_in3 (List.mem_of_getElem? (i := 230) (by decide +kernel))) rfl, fkB_in (tb_in3 (List.mem_of_getElem? (i := 231) (by decide +kernel))) rfl⟩, wi_7, fkB_in (tb_in3 (List.mem_of_getElem? (i := 232) rfl)) rfl, by decide +kernel⟩
theorem yv_X7_judge : fk_yV yX7_judge cX7_judge 9 (some (.int)) 3 := ⟨⟨fkB_in (tb_in3 (List.mem_of_getElem? (i := 234) (by decide +kernel))) rfl, fkB_in (tb_in3 (List.mem_of_getElem? (i := 235) (by decide +kernel))) rfl⟩, wi_7, fkB_in (tb_in3 (List.mem_of_getElem? (i := 236) rfl)) rfl, by decide +kernel⟩
theorem yv_X7_bake : fk_yV yX7_bake cX7_bake 4 (some (.int)) 2 := ⟨⟨fkB_in (tb_in3 (List.mem_of_getElem? (i := 239) (by decide +kernel))) rfl, fkB_in (tb_in4 (List.mem_of_getElem? (i := 0) (by decide +kernel))) rfl⟩, wi_7, fkB_in (tb_in4 (List.mem_of_getElem? (i := 1) rfl)) rfl, by decide +kernel⟩
theorem yv_X7_years : fk_yV yX7_years cX7_years 5 (some (.int)) 1 := ⟨⟨fkB_in (tb_in4 (List.mem_of_getElem? (i := 7) (by decide +kernel))) rfl, fkB_in (tb_in4 (List.mem_of_getElem? (i := 8) (by decide +kernel))) rfl⟩, wi_7, fkB_in (tb_in4 (List.mem_of_getElem? (i := 9) rfl)) rfl, by decide +kernel⟩
theorem yv_X7_seed : fk_yV yX7_seed cX7_seed 3 (some (.int)) 1 := ⟨⟨fkB_in (tb_in4 (List.mem_of_getElem? (i := 16) (by decide +kernel))) rfl, fkB_in (tb_in4 (List.mem_of_getElem? (i := 17) (by decide +kernel))) rfl⟩, wi_7, fkB_in (tb_in4 (List.mem_of_getElem? (i := 18) rfl)) rfl, by decide +kernel⟩
theorem yv_X7_act : fk_yV yX7_act cX7_act 4 (some (.int)) 3 := ⟨⟨fkB_in (tb_in4 (List.mem_of_getElem? (i := 20) (by decide +kernel))) rfl, fkB_in (tb_in4 (List.mem_of_getElem? (i := 21) (by decide +kernel))) rfl⟩, wi_7, fkB_in (tb_in4 (List.mem_of_getElem? (i := 22) rfl)) rfl, by decide +kernel⟩
theorem yv_X7_trace : fk_yV yX7_trace cX7_trace 2 (some (.int)) 1 := ⟨⟨fkB_in (tb_in4 (List.mem_of_getElem? (i := 47) (by decide +kernel))) rfl, fkB_in (tb_in4 (List.mem_of_getElem? (i := 48) (by decide +kernel))) rfl⟩, wi_7, fkB_in (tb_in4 (List.mem_of_getElem? (i := 49) rfl)) rfl, by decide +kernel⟩
theorem yv_X7_image : fk_yV yX7_image cX7_image 1 (some (.int)) 0 := ⟨⟨fkB_in (tb_in4 (List.mem_of_getElem? (i := 56) (by decide +kernel))) rfl, fkB_in (tb_in4 (List.mem_of_getElem? (i := 57) (by decide +kernel))) rfl⟩, wi_7, fkB_in (tb_in4 (List.mem_of_getElem? (i := 58) rfl)) rfl, by decide +kernel⟩
theorem yv_X7_restore : fk_yV yX7_restore cX7_restore 2 (some (.int)) 0 := ⟨⟨fkB_in (tb_in4 (List.mem_of_getElem? (i := 60) (by decide +kernel))) rfl, fkB_in (tb_in4 (List.mem_of_getElem? (i := 61) (by decide +kernel))) rfl⟩, wi_7, fkB_in (tb_in4 (List.mem_of_getElem? (i := 62) rfl)) rfl, by decide +kernel⟩
theorem yv_X7_status : fk_yV yX7_status cX7_status 2 (some (.int)) 1 := ⟨⟨fkB_in (tb_in4 (List.mem_of_getElem? (i := 64) (by decide +kernel))) rfl, fkB_in (tb_in4 (List.mem_of_getElem? (i := 65) (by decide +kernel))) rfl⟩, wi_7, fkB_in (tb_in4 (List.mem_of_getElem? (i := 66) rfl)) rfl, by decide +kernel⟩
theorem yv_X7_refuse : fk_yV yX7_refuse cX7_refuse 3 (some (.int)) 1 := ⟨⟨fkB_in (tb_in2 (List.mem_of_getElem? (i := 45) (by decide +kernel))) rfl, fkB_in (List.mem_append_left _ (List.mem_of_getElem? (i := 1) (by decide +kernel))) rfl⟩, wi_7, fkB_in (tb_in2 (List.mem_of_getElem? (i := 46) rfl)) rfl, by decide +kernel⟩
theorem yv_X7_refuseFar : fk_yV yX7_refuseFar cX7_refuseFar 2 (some (.int)) 1 := ⟨⟨fkB_in (tb_in2 (List.mem_of_getElem? (i := 118) (by decide +kernel))) rfl, fkB_in (List.mem_append_left _ (List.mem_of_getElem? (i := 11) (by decide +kernel))) rfl⟩, wi_7, fkB_in (tb_in2 (List.mem_of_getElem? (i := 119) rfl)) rfl, by decide +kernel⟩
theorem yv_X7_noShelf : fk_yV yX7_noShelf cX7_noShelf 2 (some (.boolean)) 1 := ⟨⟨fkB_in (tb_in2 (List.mem_of_getElem? (i := 41) (by decide +kernel))) rfl, fkB_in (List.mem_append_left _ (List.mem_of_getElem? (i := 0) (by decide +kernel))) rfl⟩, wi_7, fkB_in (tb_in2 (List.mem_of_getElem? (i := 42) rfl)) rfl, by decide +kernel⟩
theorem yv_X7_noRow : fk_yV yX7_noRow cX7_noRow 2 (some (.int)) 1 := ⟨⟨fkB_in (tb_in2 (List.mem_of_getElem? (i := 63) (by decide +kernel))) rfl, fkB_in (List.mem_append_left _ (List.mem_of_getElem? (i := 3) (by decide +kernel))) rfl⟩, wi_7, fkB_in (tb_in2 (List.mem_of_getElem? (i := 64) rfl)) rfl, by decide +kernel⟩
theorem yv_X7_noRows : fk_yV yX7_noRows cX7_noRows 3 (some (.int)) 2 := ⟨⟨fkB_in (tb_in2 (List.mem_of_getElem? (i := 67) (by decide +kernel))) rfl, fkB_in (List.mem_append_left _ (List.mem_of_getElem? (i := 4) (by decide +kernel))) rfl⟩, wi_7, fkB_in (tb_in2 (List.mem_of_getElem? (i := 68) rfl)) rfl, by decide +kernel⟩
theorem yv_X7_noPieOf : fk_yV yX7_noPieOf cX7_noPieOf 3 (some (.int)) 2 := ⟨⟨fkB_in (tb_in3 (List.mem_of_getElem? (i := 89) (by decide +kernel))) rfl, fkB_in (List.mem_append_left _ (List.mem_of_getElem? (i := 35) (by decide +kernel))) rfl⟩, wi_7, fkB_in (tb_in3 (List.mem_of_getElem? (i := 90) rfl)) rfl, by decide +kernel⟩
theorem yv_X7_noPieOfWhat : fk_yV yX7_noPieOfWhat cX7_noPieOfWhat 6 (some (.int)) 4 := ⟨⟨fkB_in (tb_in3 (List.mem_of_getElem? (i := 93) (by decide +kernel))) rfl, fkB_in (List.mem_append_left _ (List.mem_of_getElem? (i := 36) (by decide +kernel))) rfl⟩, wi_7, fkB_in (tb_in3 (List.mem_of_getElem? (i := 94) rfl)) rfl, by decide +kernel⟩
theorem yv_X7_findBringing : fk_yV yX7_findBringing cX7_findBringing 4 (some (.boolean)) 2 := ⟨⟨fkB_in (tb_in3 (List.mem_of_getElem? (i := 122) (by decide +kernel))) rfl, fkB_in (List.mem_append_left _ (List.mem_of_getElem? (i := 41) (by decide +kernel))) rfl⟩, wi_7, fkB_in (tb_in3 (List.mem_of_getElem? (i := 123) rfl)) rfl, by decide +kernel⟩
theorem yv_X7_kindsThatSay : fk_yV yX7_kindsThatSay cX7_kindsThatSay 5 (some (.int)) 2 := ⟨⟨fkB_in (tb_in3 (List.mem_of_getElem? (i := 137) (by decide +kernel))) rfl, fkB_in (List.mem_append_left _ (List.mem_of_getElem? (i := 42) (by decide +kernel))) rfl⟩, wi_7, fkB_in (tb_in3 (List.mem_of_getElem? (i := 138) rfl)) rfl, by decide +kernel⟩
theorem yv_X7_heatsThatSay : fk_yV yX7_heatsThatSay cX7_heatsThatSay 5 (some (.int)) 2 := ⟨⟨fkB_in (tb_in3 (List.mem_of_getElem? (i := 146) (by decide +kernel))) rfl, fkB_in (List.mem_append_left _ (List.mem_of_getElem? (i := 44) (by decide +kernel))) rfl⟩, wi_7, fkB_in (tb_in3 (List.mem_of_getElem? (i := 147) rfl)) rfl, by decide +kernel⟩
theorem yv_X7_mouthsThatSay : fk_yV yX7_mouthsThatSay cX7_mouthsThatSay 5 (some (.int)) 2 := ⟨⟨fkB_in (tb_in3 (List.mem_of_getElem? (i := 150) (by decide +kernel))) rfl, fkB_in (List.mem_append_left _ (List.mem_of_getElem? (i := 45) (by decide +kernel))) rfl⟩, wi_7, fkB_in (tb_in3 (List.mem_of_getElem? (i := 151) rfl)) rfl, by decide +kernel⟩
theorem yv_X7_mostLeft : fk_yV yX7_mostLeft cX7_mostLeft 6 (some (.int)) 1 := ⟨⟨fkB_in (tb_in3 (List.mem_of_getElem? (i := 162) (by decide +kernel))) rfl, fkB_in (List.mem_append_left _ (List.mem_of_getElem? (i := 46) (by decide +kernel))) rfl⟩, wi_7, fkB_in (tb_in3 (List.mem_of_getElem? (i := 163) rfl)) rfl, by decide +kernel⟩
theorem yv_X7_fewestIllsByLast : fk_yV yX7_fewestIllsByLast cX7_fewestIllsByLast 3 (some (.int)) 0 := ⟨⟨fkB_in (tb_in3 (List.mem_of_getElem? (i := 196) (by decide +kernel))) rfl, fkB_in (List.mem_append_left _ (List.mem_of_getElem? (i := 50) (by decide +kernel))) rfl⟩, wi_7, fkB_in (tb_in3 (List.mem_of_getElem? (i := 197) rfl)) rfl, by decide +kernel⟩
theorem yv_X7_bakeInTruth : fk_yV yX7_bakeInTruth cX7_bakeInTruth 2 none 1 := ⟨⟨fkB_in (tb_in4 (List.mem_of_getElem? (i := 4) (by decide +kernel))) rfl, fkB_in (List.mem_append_left _ (List.mem_of_getElem? (i := 57) (by decide +kernel))) rfl⟩, wi_7, fkB_in (tb_in4 (List.mem_of_getElem? (i := 5) rfl)) rfl, by decide +kernel⟩
theorem yv_X7_isUnder : fk_yS yX7_isUnder cX7_isUnder 4 (some (.boolean)) 2 := ⟨fkB_in (tb_in2 (List.mem_of_getElem? (i := 121) (by decide +kernel))) rfl, wi_7, fkB_in (tb_in2 (List.mem_of_getElem? (i := 122) rfl)) rfl, by decide +kernel⟩
theorem yv_X7_tenTo : fk_yS yX7_tenTo cX7_tenTo 1 (some (.int)) 1 := ⟨fkB_in (tb_in3 (List.mem_of_getElem? (i := 125) (by decide +kernel))) rfl, wi_7, fkB_in (tb_in3 (List.mem_of_getElem? (i := 126) rfl)) rfl, by decide +kernel⟩
theorem yv_X8_no : fk_yV yX8_no cX8_no 2 (some (.int)) 1 := ⟨⟨fkB_in (tb_in4 (List.mem_of_getElem? (i := 194) (by decide +kernel))) rfl, fkB_in (List.mem_append_left _ (List.mem_of_getElem? (i := 63) (by decide +kernel))) rfl⟩, wi_8, fkB_in (tb_in4 (List.mem_of_getElem? (i := 195) rfl)) rfl, by decide +kernel⟩
theorem yv_X8_no10 : fk_yV yX8_no10 cX8_no10 2 (some (.int)) 1 := ⟨⟨fkB_in (tb_in4 (List.mem_of_getElem? (i := 234) (by decide +kernel))) rfl, fkB_in (List.mem_append_left _ (List.mem_of_getElem? (i := 67) (by decide +kernel))) rfl⟩, wi_8, fkB_in (tb_in4 (List.mem_of_getElem? (i := 235) rfl)) rfl, by decide +kernel⟩
theorem yv_X8_within : fk_yS yX8_within cX8_within 3 (some (.boolean)) 3 := ⟨fkB_in (tb_in4 (List.mem_of_getElem? (i := 190) (by decide +kernel))) rfl, wi_8, fkB_in (tb_in4 (List.mem_of_getElem? (i := 191) rfl)) rfl, by decide +kernel⟩
theorem yv_X8_isBird : fk_yV yX8_isBird cX8_isBird 2 (some (.boolean)) 1 := ⟨⟨fkB_in (tb_in4 (List.mem_of_getElem? (i := 222) (by decide +kernel))) rfl, fkB_in (List.mem_append_left _ (List.mem_of_getElem? (i := 66) (by decide +kernel))) rfl⟩, wi_8, fkB_in (tb_in4 (List.mem_of_getElem? (i := 223) rfl)) rfl, by decide +kernel⟩
theorem yv_X8_isState : fk_yS yX8_isState cX8_isState 1 (some (.boolean)) 1 := ⟨fkB_in (tb_in5 (List.mem_of_getElem? (i := 43) (by decide +kernel))) rfl, wi_8, fkB_in (tb_in5 (List.mem_of_getElem? (i := 44) rfl)) rfl, by decide +kernel⟩
theorem yv_X8_isRow : fk_yV yX8_isRow cX8_isRow 2 (some (.boolean)) 1 := ⟨⟨fkB_in (tb_in4 (List.mem_of_getElem? (i := 206) (by decide +kernel))) rfl, fkB_in (List.mem_append_left _ (List.mem_of_getElem? (i := 65) (by decide +kernel))) rfl⟩, wi_8, fkB_in (tb_in4 (List.mem_of_getElem? (i := 207) rfl)) rfl, by decide +kernel⟩
theorem yv_X8_row : fk_yV yX8_row cX8_row 5 (some (.int)) 3 := ⟨⟨fkB_in (tb_in4 (List.mem_of_getElem? (i := 186) (by decide +kernel))) rfl, fkB_in (tb_in4 (List.mem_of_getElem? (i := 187) (by decide +kernel))) rfl⟩, wi_8, fkB_in (tb_in4 (List.mem_of_getElem? (i := 188) rfl)) rfl, by decide +kernel⟩
theorem yv_X8_noRow : fk_yV yX8_noRow cX8_noRow 2 (some (.int)) 1 := ⟨⟨fkB_in (tb_in4 (List.mem_of_getElem? (i := 202) (by decide +kernel))) rfl, fkB_in (List.mem_append_left _ (List.mem_of_getElem? (i := 64) (by decide +kernel))) rfl⟩, wi_8, fkB_in (tb_in4 (List.mem_of_getElem? (i := 203) rfl)) rfl, by decide +kernel⟩
theorem yv_X8_set : fk_yV yX8_set cX8_set 7 (some (.int)) 3 := ⟨⟨fkB_in (tb_in4 (List.mem_of_getElem? (i := 197) (by decide +kernel))) rfl, fkB_in (tb_in4 (List.mem_of_getElem? (i := 198) (by decide +kernel))) rfl⟩, wi_8, fkB_in (tb_in4 (List.mem_of_getElem? (i := 199) rfl)) rfl, by decide +kernel⟩
theorem yv_X8_copy : fk_yV yX8_copy cX8_copy 7 (some (.int)) 5 := ⟨⟨fkB_in (tb_in4 (List.mem_of_getElem? (i := 209) (by decide +kernel))) rfl, fkB_in (tb_in4 (List.mem_of_getElem? (i := 210) (by decide +kernel))) rfl⟩, wi_8, fkB_in (tb_in4 (List.mem_of_getElem? (i := 211) rfl)) rfl, by decide +kernel⟩
theorem yv_X8_element : fk_yV yX8_element cX8_element 3 (some (.long)) 2 := ⟨⟨fkB_in (tb_in4 (List.mem_of_getElem? (i := 213) (by decide +kernel))) rfl, fkB_in (tb_in4 (List.mem_of_getElem? (i := 214) (by decide +kernel))) rfl⟩, wi_8, fkB_in (tb_in4 (List.mem_of_getElem? (i := 215) rfl)) rfl, by decide +kernel⟩
theorem yv_X8_show : fk_yV yX8_show cX8_show 3 (some (.int)) 2 := ⟨⟨fkB_in (tb_in4 (List.mem_of_getElem? (i := 217) (by decide +kernel))) rfl, fkB_in (tb_in4 (List.mem_of_getElem? (i := 218) (by decide +kernel))) rfl⟩, wi_8, fkB_in (tb_in4 (List.mem_of_getElem? (i := 219) rfl)) rfl, by decide +kernel⟩
theorem yv_X8_holds : fk_yV yX8_holds cX8_holds 2 (some (.int)) 1 := ⟨⟨fkB_in (tb_in4 (List.mem_of_getElem? (i := 225) (by decide +kernel))) rfl, fkB_in (tb_in4 (List.mem_of_getElem? (i := 226) (by decide +kernel))) rfl⟩, wi_8, fkB_in (tb_in4 (List.mem_of_getElem? (i := 227) rfl)) rfl, by decide +kernel⟩
theorem yv_X8_above : fk_yS yX8_above cX8_above 1 (some (.int)) 1 := ⟨fkB_in (tb_in5 (List.mem_of_getElem? (i := 0) (by decide +kernel))) rfl, wi_8, fkB_in (tb_in5 (List.mem_of_getElem? (i := 1) rfl)) rfl, by decide +kernel⟩
theorem yv_X8_isUnder : fk_yS yX8_isUnder cX8_isUnder 3 (some (.boolean)) 2 := ⟨fkB_in (tb_in4 (List.mem_of_getElem? (i := 237) (by decide +kernel))) rfl, wi_8, fkB_in (tb_in4 (List.mem_of_getElem? (i := 238) rfl)) rfl, by decide +kernel⟩
theorem yv_X8_says : fk_yV yX8_says cX8_says 5 (some (.int)) 2 := ⟨⟨fkB_in (tb_in4 (List.mem_of_getElem? (i := 229) (by decide +kernel))) rfl, fkB_in (tb_in4 (List.mem_of_getElem? (i := 230) (by decide +kernel))) rfl⟩, wi_8, fkB_in (tb_in4 (List.mem_of_getElem? (i := 231) rfl)) rfl, by decide +kernel⟩
theorem yv_X8_newBird : fk_yV yX8_newBird cX8_newBird 4 (some (.int)) 3 := ⟨⟨fkB_in (tb_in5 (List.mem_of_getElem? (i := 29) (by decide +kernel))) rfl, fkB_in (List.mem_append_left _ (List.mem_of_getElem? (i := 73) (by decide +kernel))) rfl⟩, wi_8, fkB_in (tb_in5 (List.mem_of_getElem? (i := 30) rfl)) rfl, by decide +kernel⟩
theorem yv_X8_bird : fk_yV yX8_bird cX8_bird 4 (some (.int)) 3 := ⟨⟨fkB_in (tb_in5 (List.mem_of_getElem? (i := 24) (by decide +kernel))) rfl, fkB_in (tb_in5 (List.mem_of_getElem? (i := 25) (by decide +kernel))) rfl⟩, wi_8, fkB_in (tb_in5 (List.mem_of_getElem? (i := 26) rfl)) rfl, by decide +kernel⟩
theorem yv_X8_ask : fk_yV yX8_ask cX8_ask 4 (some (.int)) 2 := ⟨⟨fkB_in (tb_in5 (List.mem_of_getElem? (i := 32) (by decide +kernel))) rfl, fkB_in (tb_in5 (List.mem_of_getElem? (i := 33) (by decide +kernel))) rfl⟩, wi_8, fkB_in (tb_in5 (List.mem_of_getElem? (i := 34) rfl)) rfl, by decide +kernel⟩
theorem yv_X8_isPart : fk_yS yX8_isPart cX8_isPart 2 (some (.boolean)) 2 := ⟨fkB_in (tb_in5 (List.mem_of_getElem? (i := 40) (by decide +kernel))) rfl, wi_8, fkB_in (tb_in5 (List.mem_of_getElem? (i := 41) rfl)) rfl, by decide +kernel⟩
theorem yv_X8_table : fk_yV yX8_table cX8_table 5 (some (.int)) 3 := ⟨⟨fkB_in (tb_in5 (List.mem_of_getElem? (i := 36) (by decide +kernel))) rfl, fkB_in (tb_in5 (List.mem_of_getElem? (i := 37) (by decide +kernel))) rfl⟩, wi_8, fkB_in (tb_in5 (List.mem_of_getElem? (i := 38) rfl)) rfl, by decide +kernel⟩
theorem yv_X8_comes : fk_yV yX8_comes cX8_comes 3 (some (.int)) 2 := ⟨⟨fkB_in (tb_in5 (List.mem_of_getElem? (i := 46) (by decide +kernel))) rfl, fkB_in (tb_in5 (List.mem_of_getElem? (i := 47) (by decide +kernel))) rfl⟩, wi_8, fkB_in (tb_in5 (List.mem_of_getElem? (i := 48) rfl)) rfl, by decide +kernel⟩
theorem yv_X8_birdOf : fk_yV yX8_birdOf cX8_birdOf 3 (some (.int)) 2 := ⟨⟨fkB_in (tb_in5 (List.mem_of_getElem? (i := 50) (by decide +kernel))) rfl, fkB_in (tb_in5 (List.mem_of_getElem? (i := 51) (by decide +kernel))) rfl⟩, wi_8, fkB_in (tb_in5 (List.mem_of_getElem? (i := 52) rfl)) rfl, by decide +kernel⟩
theorem yv_X8_sign : fk_yV yX8_sign cX8_sign 1 (some (.int)) 0 := ⟨⟨fkB_in (tb_in5 (List.mem_of_getElem? (i := 67) (by decide +kernel))) rfl, fkB_in (List.mem_append_left _ (List.mem_of_getElem? (i := 76) (by decide +kernel))) rfl⟩, wi_8, fkB_in (tb_in5 (List.mem_of_getElem? (i := 68) rfl)) rfl, by decide +kernel⟩
theorem yv_X8_is : fk_yV yX8_is cX8_is 2 (some (.boolean)) 1 := ⟨⟨fkB_in (tb_in5 (List.mem_of_getElem? (i := 82) (by decide +kernel))) rfl, fkB_in (List.mem_append_left _ (List.mem_of_getElem? (i := 79) (by decide +kernel))) rfl⟩, wi_8, fkB_in (tb_in5 (List.mem_of_getElem? (i := 83) rfl)) rfl, by decide +kernel⟩
theorem yv_X8_word : fk_yV yX8_word cX8_word 3 (some (.boolean)) 1 := ⟨⟨fkB_in (tb_in5 (List.mem_of_getElem? (i := 76) (by decide +kernel))) rfl, fkB_in (List.mem_append_left _ (List.mem_of_getElem? (i := 78) (by decide +kernel))) rfl⟩, wi_8, fkB_in (tb_in5 (List.mem_of_getElem? (i := 77) rfl)) rfl, by decide +kernel⟩
theorem yv_X8_word_ : fk_yV yX8_word_ cX8_word_ 5 (some (.boolean)) 2 := ⟨⟨fkB_in (tb_in5 (List.mem_of_getElem? (i := 72) (by decide +kernel))) rfl, fkB_in (List.mem_append_left _ (List.mem_of_getElem? (i := 77) (by decide +kernel))) rfl⟩, wi_8, fkB_in (tb_in5 (List.mem_of_getElem? (i := 73) rfl)) rfl, by decide +kernel⟩
theorem yv_X8_number : fk_yV yX8_number cX8_number 7 (some (.boolean)) 3 := ⟨⟨fkB_in (tb_in5 (List.mem_of_getElem? (i := 86) (by decide +kernel))) rfl, fkB_in (List.mem_append_left _ (List.mem_of_getElem? (i := 80) (by decide +kernel))) rfl⟩, wi_8, fkB_in (tb_in5 (List.mem_of_getElem? (i := 87) rfl)) rfl, by decide +kernel⟩
theorem yv_X8_item : fk_yV yX8_item cX8_item 1 (some (.boolean)) 0 := ⟨⟨fkB_in (tb_in5 (List.mem_of_getElem? (i := 63) (by decide +kernel))) rfl, fkB_in (List.mem_append_left _ (List.mem_of_getElem? (i := 75) (by decide +kernel))) rfl⟩, wi_8, fkB_in (tb_in5 (List.mem_of_getElem? (i := 64) rfl)) rfl, by decide +kernel⟩
theorem yv_X8_bakery : fk_yV yX8_bakery cX8_bakery 5 (some (.int)) 1 := ⟨⟨fkB_in (tb_in5 (List.mem_of_getElem? (i := 54) (by decide +kernel))) rfl, fkB_in (tb_in5 (List.mem_of_getElem? (i := 55) (by decide +kernel))) rfl⟩, wi_8, fkB_in (tb_in5 (List.mem_of_getElem? (i := 56) rfl)) rfl, by decide +kernel⟩
theorem yv_X8_fault : fk_yV yX8_fault cX8_fault 1 (some (.int)) 0 := ⟨⟨fkB_in (tb_in5 (List.mem_of_getElem? (i := 98) (by decide +kernel))) rfl, fkB_in (tb_in5 (List.mem_of_getElem? (i := 99) (by decide +kernel))) rfl⟩, wi_8, fkB_in (tb_in5 (List.mem_of_getElem? (i := 100) rfl)) rfl, by decide +kernel⟩
theorem yv_X8_toldAt : fk_yV yX8_toldAt cX8_toldAt 3 (some (.int)) 2 := ⟨⟨fkB_in (tb_in5 (List.mem_of_getElem? (i := 115) (by decide +kernel))) rfl, fkB_in (List.mem_append_left _ (List.mem_of_getElem? (i := 84) (by decide +kernel))) rfl⟩, wi_8, fkB_in (tb_in5 (List.mem_of_getElem? (i := 116) rfl)) rfl, by decide +kernel⟩
theorem yv_X8_isPie : fk_yV yX8_isPie cX8_isPie 4 (some (.boolean)) 2 := ⟨⟨fkB_in (tb_in5 (List.mem_of_getElem? (i := 111) (by decide +kernel))) rfl, fkB_in (List.mem_append_left _ (List.mem_of_getElem? (i := 83) (by decide +kernel))) rfl⟩, wi_8, fkB_in (tb_in5 (List.mem_of_getElem? (i := 112) rfl)) rfl, by decide +kernel⟩
theorem yv_X8_plain : fk_yV yX8_plain cX8_plain 3 (some (.int)) 2 := ⟨⟨fkB_in (tb_in5 (List.mem_of_getElem? (i := 13) (by decide +kernel))) rfl, fkB_in (List.mem_append_left _ (List.mem_of_getElem? (i := 70) (by decide +kernel))) rfl⟩, wi_8, fkB_in (tb_in5 (List.mem_of_getElem? (i := 14) rfl)) rfl, by decide +kernel⟩
theorem yv_X8_chipped : fk_yV yX8_chipped cX8_chipped 4 (some (.int)) 2 := ⟨⟨fkB_in (tb_in5 (List.mem_of_getElem? (i := 9) (by decide +kernel))) rfl, fkB_in (List.mem_append_left _ (List.mem_of_getElem? (i := 69) (by decide +kernel))) rfl⟩, wi_8, fkB_in (tb_in5 (List.mem_of_getElem? (i := 10) rfl)) rfl, by decide +kernel⟩
theorem yv_X8_widowed : fk_yV yX8_widowed cX8_widowed 3 (some (.int)) 2 := ⟨⟨fkB_in (tb_in5 (List.mem_of_getElem? (i := 17) (by decide +kernel))) rfl, fkB_in (List.mem_append_left _ (List.mem_of_getElem? (i := 71) (by decide +kernel))) rfl⟩, wi_8, fkB_in (tb_in5 (List.mem_of_getElem? (i := 18) rfl)) rfl, by decide +kernel⟩
theorem yv_X8_sorts : fk_yV yX8_sorts cX8_sorts 4 none 0 := ⟨⟨fkB_in (tb_in5 (List.mem_of_getElem? (i := 21) (by decide +kernel))) rfl, fkB_in (List.mem_append_left _ (List.mem_of_getElem? (i := 72) (by decide +kernel))) rfl⟩, wi_8, fkB_in (tb_in5 (List.mem_of_getElem? (i := 22) rfl)) rfl, by decide +kernel⟩
theorem yv_X8_tells : fk_yV yX8_tells cX8_tells 4 none 1 := ⟨⟨fkB_in (tb_in5 (List.mem_of_getElem? (i := 4) (by decide +kernel))) rfl, fkB_in (List.mem_append_left _ (List.mem_of_getElem? (i := 68) (by decide +kernel))) rfl⟩, wi_8, fkB_in (tb_in5 (List.mem_of_getElem? (i := 5) rfl)) rfl, by decide +kernel⟩
theorem yv_X8_goes : fk_yV yX8_goes cX8_goes 4 none 2 := ⟨⟨fkB_in (tb_in5 (List.mem_of_getElem? (i := 123) (by decide +kernel))) rfl, fkB_in (List.mem_append_left _ (List.mem_of_getElem? (i := 85) (by decide +kernel))) rfl⟩, wi_8, fkB_in (tb_in5 (List.mem_of_getElem? (i := 124) rfl)) rfl, by decide +kernel⟩
theorem yv_X8_has : fk_yS yX8_has cX8_has 2 (some (.boolean)) 2 := ⟨fkB_in (tb_in5 (List.mem_of_getElem? (i := 126) (by decide +kernel))) rfl, wi_8, fkB_in (tb_in5 (List.mem_of_getElem? (i := 127) rfl)) rfl, by decide +kernel⟩
theorem yv_X8_noPie : fk_yV yX8_noPie cX8_noPie 3 (some (.int)) 2 := ⟨⟨fkB_in (tb_in5 (List.mem_of_getElem? (i := 107) (by decide +kernel))) rfl, fkB_in (List.mem_append_left _ (List.mem_of_getElem? (i := 82) (by decide +kernel))) rfl⟩, wi_8, fkB_in (tb_in5 (List.mem_of_getElem? (i := 108) rfl)) rfl, by decide +kernel⟩
theorem yv_X8_noRows : fk_yV yX8_noRows cX8_noRows 5 (some (.int)) 2 := ⟨⟨fkB_in (tb_in5 (List.mem_of_getElem? (i := 149) (by decide +kernel))) rfl, fkB_in (List.mem_append_left _ (List.mem_of_getElem? (i := 87) (by decide +kernel))) rfl⟩, wi_8, fkB_in (tb_in5 (List.mem_of_getElem? (i := 150) rfl)) rfl, by decide +kernel⟩
theorem yv_X8_said : fk_yV yX8_said cX8_said 5 (some (.int)) 3 := ⟨⟨fkB_in (tb_in5 (List.mem_of_getElem? (i := 102) (by decide +kernel))) rfl, fkB_in (tb_in5 (List.mem_of_getElem? (i := 103) (by decide +kernel))) rfl⟩, wi_8, fkB_in (tb_in5 (List.mem_of_getElem? (i := 104) rfl)) rfl, by decide +kernel⟩
theorem yv_X8_brings : fk_yV yX8_brings cX8_brings 5 (some (.int)) 3 := ⟨⟨fkB_in (tb_in5 (List.mem_of_getElem? (i := 118) (by decide +kernel))) rfl, fkB_in (tb_in5 (List.mem_of_getElem? (i := 119) (by decide +kernel))) rfl⟩, wi_8, fkB_in (tb_in5 (List.mem_of_getElem? (i := 120) rfl)) rfl, by decide +kernel⟩
theorem yv_X8_pow : fk_yS yX8_pow cX8_pow 3 (some (.int)) 1 := ⟨fkB_in (tb_in5 (List.mem_of_getElem? (i := 133) (by decide +kernel))) rfl, wi_8, fkB_in (tb_in5 (List.mem_of_getElem? (i := 134) rfl)) rfl, by decide +kernel⟩
theorem yv_X8_lays : fk_yV yX8_lays cX8_lays 5 none 2 := ⟨⟨fkB_in (tb_in5 (List.mem_of_getElem? (i := 137) (by decide +kernel))) rfl, fkB_in (List.mem_append_left _ (List.mem_of_getElem? (i := 86) (by decide +kernel))) rfl⟩, wi_8, fkB_in (tb_in5 (List.mem_of_getElem? (i := 138) rfl)) rfl, by decide +kernel⟩
theorem yv_X8_soonest : fk_yV yX8_soonest cX8_soonest 6 (some (.int)) 3 := ⟨⟨fkB_in (tb_in5 (List.mem_of_getElem? (i := 129) (by decide +kernel))) rfl, fkB_in (tb_in5 (List.mem_of_getElem? (i := 130) (by decide +kernel))) rfl⟩, wi_8, fkB_in (tb_in5 (List.mem_of_getElem? (i := 131) rfl)) rfl, by decide +kernel⟩
theorem yv_X8_safe : fk_yV yX8_safe cX8_safe 4 (some (.int)) 1 := ⟨⟨fkB_in (tb_in5 (List.mem_of_getElem? (i := 140) (by decide +kernel))) rfl, fkB_in (tb_in5 (List.mem_of_getElem? (i := 141) (by decide +kernel))) rfl⟩, wi_8, fkB_in (tb_in5 (List.mem_of_getElem? (i := 142) rfl)) rfl, by decide +kernel⟩
theorem yv_X8_isSaid : fk_yV yX8_isSaid cX8_isSaid 4 (some (.boolean)) 2 := ⟨⟨fkB_in (tb_in5 (List.mem_of_getElem? (i := 157) (by decide +kernel))) rfl, fkB_in (List.mem_append_left _ (List.mem_of_getElem? (i := 89) (by decide +kernel))) rfl⟩, wi_8, fkB_in (tb_in5 (List.mem_of_getElem? (i := 158) rfl)) rfl, by decide +kernel⟩
theorem yv_X8_kindsSo : fk_yV yX8_kindsSo cX8_kindsSo 6 (some (.int)) 2 := ⟨⟨fkB_in (tb_in5 (List.mem_of_getElem? (i := 153) (by decide +kernel))) rfl, fkB_in (List.mem_append_left _ (List.mem_of_getElem? (i := 88) (by decide +kernel))) rfl⟩, wi_8, fkB_in (tb_in5 (List.mem_of_getElem? (i := 154) rfl)) rfl, by decide +kernel⟩
theorem yv_X8_heatsSo : fk_yV yX8_heatsSo cX8_heatsSo 6 (some (.int)) 2 := ⟨⟨fkB_in (tb_in5 (List.mem_of_getElem? (i := 161) (by decide +kernel))) rfl, fkB_in (List.mem_append_left _ (List.mem_of_getElem? (i := 90) (by decide +kernel))) rfl⟩, wi_8, fkB_in (tb_in5 (List.mem_of_getElem? (i := 162) rfl)) rfl, by decide +kernel⟩
theorem yv_X8_mouthsSo : fk_yV yX8_mouthsSo cX8_mouthsSo 6 (some (.int)) 2 := ⟨⟨fkB_in (tb_in5 (List.mem_of_getElem? (i := 165) (by decide +kernel))) rfl, fkB_in (List.mem_append_left _ (List.mem_of_getElem? (i := 91) (by decide +kernel))) rfl⟩, wi_8, fkB_in (tb_in5 (List.mem_of_getElem? (i := 166) rfl)) rfl, by decide +kernel⟩
theorem yv_X8_fits : fk_yV yX8_fits cX8_fits 6 (some (.int)) 4 := ⟨⟨fkB_in (tb_in5 (List.mem_of_getElem? (i := 144) (by decide +kernel))) rfl, fkB_in (tb_in5 (List.mem_of_getElem? (i := 145) (by decide +kernel))) rfl⟩, wi_8, fkB_in (tb_in5 (List.mem_of_getElem? (i := 146) rfl)) rfl, by decide +kernel⟩
theorem yv_X8_pies : fk_yV yX8_pies cX8_pies 9 (some (.int)) 4 := ⟨⟨fkB_in (tb_in5 (List.mem_of_getElem? (i := 168) (by decide +kernel))) rfl, fkB_in (tb_in5 (List.mem_of_getElem? (i := 169) (by decide +kernel))) rfl⟩, wi_8, fkB_in (tb_in5 (List.mem_of_getElem? (i := 170) rfl)) rfl, by decide +kernel⟩
theorem yv_X8_worst : fk_yV yX8_worst cX8_worst 7 (some (.int)) 1 := ⟨⟨fkB_in (tb_in5 (List.mem_of_getElem? (i := 177) (by decide +kernel))) rfl, fkB_in (List.mem_append_left _ (List.mem_of_getElem? (i := 92) (by decide +kernel))) rfl⟩, wi_8, fkB_in (tb_in5 (List.mem_of_getElem? (i := 178) rfl)) rfl, by decide +kernel⟩
theorem yv_X8_next : fk_yV yX8_next cX8_next 6 (some (.int)) 1 := ⟨⟨fkB_in (tb_in5 (List.mem_of_getElem? (i := 172) (by decide +kernel))) rfl, fkB_in (tb_in5 (List.mem_of_getElem? (i := 173) (by decide +kernel))) rfl⟩, wi_8, fkB_in (tb_in5 (List.mem_of_getElem? (i := 174) rfl)) rfl, by decide +kernel⟩
theorem yv_X8_unknown : fk_yV yX8_unknown cX8_unknown 3 (some (.int)) 0 := ⟨⟨fkB_in (tb_in5 (List.mem_of_getElem? (i := 186) (by decide +kernel))) rfl, fkB_in (List.mem_append_left _ (List.mem_of_getElem? (i := 93) (by decide +kernel))) rfl⟩, wi_8, fkB_in (tb_in5 (List.mem_of_getElem? (i := 187) rfl)) rfl, by decide +kernel⟩
theorem yv_X8_chance : fk_yV yX8_chance cX8_chance 12 (some (.int)) 4 := ⟨⟨fkB_in (tb_in5 (List.mem_of_getElem? (i := 181) (by decide +kernel))) rfl, fkB_in (tb_in5 (List.mem_of_getElem? (i := 182) (by decide +kernel))) rfl⟩, wi_8, fkB_in (tb_in5 (List.mem_of_getElem? (i := 183) rfl)) rfl, by decide +kernel⟩
theorem yv_X8_minutes : fk_yV yX8_minutes cX8_minutes 7 (some (.int)) 2 := ⟨⟨fkB_in (tb_in5 (List.mem_of_getElem? (i := 190) (by decide +kernel))) rfl, fkB_in (tb_in5 (List.mem_of_getElem? (i := 191) (by decide +kernel))) rfl⟩, wi_8, fkB_in (tb_in5 (List.mem_of_getElem? (i := 192) rfl)) rfl, by decide +kernel⟩
theorem yv_X8_after : fk_yV yX8_after cX8_after 6 (some (.int)) 3 := ⟨⟨fkB_in (tb_in5 (List.mem_of_getElem? (i := 194) (by decide +kernel))) rfl, fkB_in (tb_in5 (List.mem_of_getElem? (i := 195) (by decide +kernel))) rfl⟩, wi_8, fkB_in (tb_in5 (List.mem_of_getElem? (i := 196) rfl)) rfl, by decide +kernel⟩
theorem yv_X8_fewestIlls : fk_yV yX8_fewestIlls cX8_fewestIlls 4 (some (.int)) 1 := ⟨⟨fkB_in (tb_in5 (List.mem_of_getElem? (i := 203) (by decide +kernel))) rfl, fkB_in (List.mem_append_left _ (List.mem_of_getElem? (i := 94) (by decide +kernel))) rfl⟩, wi_8, fkB_in (tb_in5 (List.mem_of_getElem? (i := 204) rfl)) rfl, by decide +kernel⟩
theorem yv_X8_kings : fk_yV yX8_kings cX8_kings 10 (some (.int)) 3 := ⟨⟨fkB_in (tb_in5 (List.mem_of_getElem? (i := 198) (by decide +kernel))) rfl, fkB_in (tb_in5 (List.mem_of_getElem? (i := 199) (by decide +kernel))) rfl⟩, wi_8, fkB_in (tb_in5 (List.mem_of_getElem? (i := 200) rfl)) rfl, by decide +kernel⟩
theorem yv_X8_parts : fk_yV yX8_parts cX8_parts 5 none 3 := ⟨⟨fkB_in (tb_in5 (List.mem_of_getElem? (i := 215) (by decide +kernel))) rfl, fkB_in (List.mem_append_left _ (List.mem_of_getElem? (i := 96) (by decide +kernel))) rfl⟩, wi_8, fkB_in (tb_in5 (List.mem_of_getElem? (i := 216) rfl)) rfl, by decide +kernel⟩
theorem yv_X8_areWishes : fk_yV yX8_areWishes cX8_areWishes 3 (some (.boolean)) 1 := ⟨⟨fkB_in (tb_in5 (List.mem_of_getElem? (i := 211) (by decide +kernel))) rfl, fkB_in (List.mem_append_left _ (List.mem_of_getElem? (i := 95) (by decide +kernel))) rfl⟩, wi_8, fkB_in (tb_in5 (List.mem_of_getElem? (i := 212) rfl)) rfl, by decide +kernel⟩
theorem yv_X8_tribes : fk_yV yX8_tribes cX8_tribes 6 (some (.int)) 3 := ⟨⟨fkB_in (tb_in5 (List.mem_of_getElem? (i := 206) (by decide +kernel))) rfl, fkB_in (tb_in5 (List.mem_of_getElem? (i := 207) (by decide +kernel))) rfl⟩, wi_8, fkB_in (tb_in5 (List.mem_of_getElem? (i := 208) rfl)) rfl, by decide +kernel⟩
theorem yv_X8_alike : fk_yV yX8_alike cX8_alike 8 (some (.int)) 2 := ⟨⟨fkB_in (tb_in5 (List.mem_of_getElem? (i := 218) (by decide +kernel))) rfl, fkB_in (tb_in5 (List.mem_of_getElem? (i := 219) (by decide +kernel))) rfl⟩, wi_8, fkB_in (tb_in5 (List.mem_of_getElem? (i := 220) rfl)) rfl, by decide +kernel⟩
theorem yv_X8_judge : fk_yV yX8_judge cX8_judge 7 (some (.int)) 3 := ⟨⟨fkB_in (tb_in5 (List.mem_of_getElem? (i := 222) (by decide +kernel))) rfl, fkB_in (tb_in5 (List.mem_of_getElem? (i := 223) (by decide +kernel))) rfl⟩, wi_8, fkB_in (tb_in5 (List.mem_of_getElem? (i := 224) rfl)) rfl, by decide +kernel⟩
theorem yv_X8_bakes : fk_yV yX8_bakes cX8_bakes 2 none 1 := ⟨⟨fkB_in (tb_in5 (List.mem_of_getElem? (i := 232) (by decide +kernel))) rfl, fkB_in (List.mem_append_left _ (List.mem_of_getElem? (i := 97) (by decide +kernel))) rfl⟩, wi_8, fkB_in (tb_in5 (List.mem_of_getElem? (i := 233) rfl)) rfl, by decide +kernel⟩
theorem yv_X8_bake : fk_yV yX8_bake cX8_bake 4 (some (.int)) 2 := ⟨⟨fkB_in (tb_in5 (List.mem_of_getElem? (i := 227) (by decide +kernel))) rfl, fkB_in (tb_in5 (List.mem_of_getElem? (i := 228) (by decide +kernel))) rfl⟩, wi_8, fkB_in (tb_in5 (List.mem_of_getElem? (i := 229) rfl)) rfl, by decide +kernel⟩
theorem yv_X8_draw : fk_yV yX8_draw cX8_draw 2 (some (.int)) 1 := ⟨⟨fkB_in (tb_in6 (List.mem_of_getElem? (i := 0) (by decide +kernel))) rfl, fkB_in (List.mem_append_left _ (List.mem_of_getElem? (i := 98) (by decide +kernel))) rfl⟩, wi_8, fkB_in (tb_in6 (List.mem_of_getElem? (i := 1) rfl)) rfl, by decide +kernel⟩
theorem yv_X8_years : fk_yV yX8_years cX8_years 5 (some (.int)) 1 := ⟨⟨fkB_in (tb_in5 (List.mem_of_getElem? (i := 235) (by decide +kernel))) rfl, fkB_in (tb_in5 (List.mem_of_getElem? (i := 236) (by decide +kernel))) rfl⟩, wi_8, fkB_in (tb_in5 (List.mem_of_getElem? (i := 237) rfl)) rfl, by decide +kernel⟩
theorem yv_X8_seed : fk_yV yX8_seed cX8_seed 3 (some (.int)) 1 := ⟨⟨fkB_in (tb_in6 (List.mem_of_getElem? (i := 4) (by decide +kernel))) rfl, fkB_in (tb_in6 (List.mem_of_getElem? (i := 5) (by decide +kernel))) rfl⟩, wi_8, fkB_in (tb_in6 (List.mem_of_getElem? (i := 6) rfl)) rfl, by decide +kernel⟩
theorem yv_X8_ran : fk_yV yX8_ran cX8_ran 2 none 1 := ⟨⟨fkB_in (tb_in6 (List.mem_of_getElem? (i := 17) (by decide +kernel))) rfl, fkB_in (List.mem_append_left _ (List.mem_of_getElem? (i := 100) (by decide +kernel))) rfl⟩, wi_8, fkB_in (tb_in6 (List.mem_of_getElem? (i := 18) rfl)) rfl, by decide +kernel⟩
theorem yv_X8_singsBy : fk_yV yX8_singsBy cX8_singsBy 4 (some (.int)) 3 := ⟨⟨fkB_in (tb_in6 (List.mem_of_getElem? (i := 13) (by decide +kernel))) rfl, fkB_in (List.mem_append_left _ (List.mem_of_getElem? (i := 99) (by decide +kernel))) rfl⟩, wi_8, fkB_in (tb_in6 (List.mem_of_getElem? (i := 14) rfl)) rfl, by decide +kernel⟩
theorem yv_X8_steamsBy : fk_yV yX8_steamsBy cX8_steamsBy 4 (some (.int)) 3 := ⟨⟨fkB_in (tb_in6 (List.mem_of_getElem? (i := 21) (by decide +kernel))) rfl, fkB_in (List.mem_append_left _ (List.mem_of_getElem? (i := 101) (by decide +kernel))) rfl⟩, wi_8, fkB_in (tb_in6 (List.mem_of_getElem? (i := 22) rfl)) rfl, by decide +kernel⟩
theorem yv_X8_fallsBy : fk_yV yX8_fallsBy cX8_fallsBy 5 (some (.int)) 3 := ⟨⟨fkB_in (tb_in6 (List.mem_of_getElem? (i := 25) (by decide +kernel))) rfl, fkB_in (List.mem_append_left _ (List.mem_of_getElem? (i := 102) (by decide +kernel))) rfl⟩, wi_8, fkB_in (tb_in6 (List.mem_of_getElem? (i := 26) rfl)) rfl, by decide +kernel⟩
theorem yv_X8_act : fk_yV yX8_act cX8_act 5 (some (.int)) 3 := ⟨⟨fkB_in (tb_in6 (List.mem_of_getElem? (i := 8) (by decide +kernel))) rfl, fkB_in (tb_in6 (List.mem_of_getElem? (i := 9) (by decide +kernel))) rfl⟩, wi_8, fkB_in (tb_in6 (List.mem_of_getElem? (i := 10) rfl)) rfl, by decide +kernel⟩
theorem yv_X8_trace : fk_yV yX8_trace cX8_trace 2 (some (.int)) 1 := ⟨⟨fkB_in (tb_in6 (List.mem_of_getElem? (i := 28) (by decide +kernel))) rfl, fkB_in (tb_in6 (List.mem_of_getElem? (i := 29) (by decide +kernel))) rfl⟩, wi_8, fkB_in (tb_in6 (List.mem_of_getElem? (i := 30) rfl)) rfl, by decide +kernel⟩
theorem yv_X8_keep : fk_yV yX8_keep cX8_keep 3 none 1 := ⟨⟨fkB_in (tb_in5 (List.mem_of_getElem? (i := 59) (by decide +kernel))) rfl, fkB_in (List.mem_append_left _ (List.mem_of_getElem? (i := 74) (by decide +kernel))) rfl⟩, wi_8, fkB_in (tb_in5 (List.mem_of_getElem? (i := 60) rfl)) rfl, by decide +kernel⟩
theorem yv_X8_again : fk_yV yX8_again cX8_again 3 none 1 := ⟨⟨fkB_in (tb_in5 (List.mem_of_getElem? (i := 95) (by decide +kernel))) rfl, fkB_in (List.mem_append_left _ (List.mem_of_getElem? (i := 81) (by decide +kernel))) rfl⟩, wi_8, fkB_in (tb_in5 (List.mem_of_getElem? (i := 96) rfl)) rfl, by decide +kernel⟩
theorem yv_X8_image : fk_yV yX8_image cX8_image 1 (some (.int)) 0 := ⟨⟨fkB_in (tb_in6 (List.mem_of_getElem? (i := 32) (by decide +kernel))) rfl, fkB_in (tb_in6 (List.mem_of_getElem? (i := 33) (by decide +kernel))) rfl⟩, wi_8, fkB_in (tb_in6 (List.mem_of_getElem? (i := 34) rfl)) rfl, by decide +kernel⟩
theorem yv_X8_restore : fk_yV yX8_restore cX8_restore 2 (some (.int)) 0 := ⟨⟨fkB_in (tb_in6 (List.mem_of_getElem? (i := 36) (by decide +kernel))) rfl, fkB_in (tb_in6 (List.mem_of_getElem? (i := 37) (by decide +kernel))) rfl⟩, wi_8, fkB_in (tb_in6 (List.mem_of_getElem? (i := 38) rfl)) rfl, by decide +kernel⟩
theorem yv_X8_status : fk_yV yX8_status cX8_status 2 (some (.int)) 1 := ⟨⟨fkB_in (tb_in6 (List.mem_of_getElem? (i := 40) (by decide +kernel))) rfl, fkB_in (tb_in6 (List.mem_of_getElem? (i := 41) (by decide +kernel))) rfl⟩, wi_8, fkB_in (tb_in6 (List.mem_of_getElem? (i := 42) rfl)) rfl, by decide +kernel⟩
theorem ml_0_46 : Cond.methodLink RX0 46 arraycopyName ∈ fkB := fkB_in (tb_in2 (List.mem_of_getElem? (i := 215) (by decide +kernel))) rfl
theorem ml_0_52 : Cond.methodLink RX0 52 yX0_comingBy ∈ fkB := fkB_in (tb_in2 (List.mem_of_getElem? (i := 198) (by decide +kernel))) rfl
theorem ml_1_28 : Cond.methodLinkNest RX1 28 yX0_lacks "PieFunnels" ∈ fk_nests := List.mem_of_getElem? (i := 93) (by decide +kernel)
theorem ml_1_40 : Cond.methodLink RX1 40 Lib.Math.min.name ∈ fkB := fkB_in (tb_in4 (List.mem_of_getElem? (i := 54) (by decide +kernel))) rfl
theorem ml_1_52 : Cond.methodLink RX1 52 yX1_bodyFrom ∈ fkB := fkB_in (tb_in4 (List.mem_of_getElem? (i := 35) (by decide +kernel))) rfl
theorem ml_1_55 : Cond.methodLink RX1 55 yX1_begin ∈ fkB := fkB_in (tb_in4 (List.mem_of_getElem? (i := 41) (by decide +kernel))) rfl
theorem ml_1_59 : Cond.methodLink RX1 59 yX1_run ∈ fkB := fkB_in (tb_in4 (List.mem_of_getElem? (i := 45) (by decide +kernel))) rfl
theorem ml_2_33 : Cond.methodLinkNest RX2 33 yX5_number "PieFunnels" ∈ fk_nests := List.mem_of_getElem? (i := 85) (by decide +kernel)
theorem ml_2_37 : Cond.methodLink RX2 37 yX2_firstLeft ∈ fkB := fkB_in (tb_in3 (List.mem_of_getElem? (i := 221) (by decide +kernel))) rfl
theorem ml_3_24 : Cond.methodLinkNest RX3 24 yX5_number "PieFunnels" ∈ fk_nests := List.mem_of_getElem? (i := 75) (by decide +kernel)
theorem ml_3_28 : Cond.methodLink RX3 28 Lib.Math.min.name ∈ fkB := fkB_in (tb_in2 (List.mem_of_getElem? (i := 134) (by decide +kernel))) rfl
theorem ml_3_34 : Cond.methodLink RX3 34 Lib.Math.max.name ∈ fkB := fkB_in (tb_in2 (List.mem_of_getElem? (i := 135) (by decide +kernel))) rfl
theorem ml_4_112 : Cond.methodLink RX4 112 yX4_digit ∈ fkB := fkB_in (tb_in3 (List.mem_of_getElem? (i := 68) (by decide +kernel))) rfl
theorem ml_4_26 : Cond.methodLink RX4 26 yX4_expect ∈ fkB := fkB_in (tb_in2 (List.mem_of_getElem? (i := 220) (by decide +kernel))) rfl
theorem ml_4_30 : Cond.methodLink RX4 30 yX4_readItem ∈ fkB := fkB_in (tb_in2 (List.mem_of_getElem? (i := 232) (by decide +kernel))) rfl
theorem ml_4_39 : Cond.methodLink RX4 39 yX4_letter ∈ fkB := fkB_in (tb_in2 (List.mem_of_getElem? (i := 224) (by decide +kernel))) rfl
theorem ml_4_43 : Cond.methodLink RX4 43 yX4_wordThatBeginsWith ∈ fkB := fkB_in (tb_in2 (List.mem_of_getElem? (i := 236) (by decide +kernel))) rfl
theorem ml_4_47 : Cond.methodLink RX4 47 yJ0_length_8abf5 ∈ fkB := fkB_in (tb_in3 (List.mem_of_getElem? (i := 6) (by decide +kernel))) rfl
theorem ml_4_52 : Cond.methodLink RX4 52 yJ0_charAt_5068e ∈ fkB := fkB_in (tb_in3 (List.mem_of_getElem? (i := 16) (by decide +kernel))) rfl
theorem ml_4_56 : Cond.methodLink RX4 56 yJ0_isEmpty_aae02 ∈ fkB := fkB_in (tb_in3 (List.mem_of_getElem? (i := 54) (by decide +kernel))) rfl
theorem ml_4_60 : Cond.methodLink RX4 60 yX4_fail ∈ fkB := fkB_in (tb_in2 (List.mem_of_getElem? (i := 228) (by decide +kernel))) rfl
theorem ml_4_69 : Cond.methodLink RX4 69 yX4_numbersBehind ∈ fkB := fkB_in (tb_in3 (List.mem_of_getElem? (i := 58) (by decide +kernel))) rfl
theorem ml_4_73 : Cond.methodLink RX4 73 yX4_most ∈ fkB := fkB_in (tb_in3 (List.mem_of_getElem? (i := 61) (by decide +kernel))) rfl
theorem ml_4_77 : Cond.methodLink RX4 77 yX4_readNumber ∈ fkB := fkB_in (tb_in3 (List.mem_of_getElem? (i := 64) (by decide +kernel))) rfl
theorem ml_4_80 : Cond.methodLink RX4 80 yX4_tell ∈ fkB := fkB_in (tb_in3 (List.mem_of_getElem? (i := 72) (by decide +kernel))) rfl
theorem ml_4_84 : Cond.methodLinkNest RX4 84 yX0_add "PieFunnels" ∈ fk_nests := List.mem_of_getElem? (i := 72) (by decide +kernel)
theorem ml_4_94 : Cond.methodLinkNest RX4 94 yX0_setComing "PieFunnels" ∈ fk_nests := List.mem_of_getElem? (i := 73) (by decide +kernel)
theorem ml_5_28 : Cond.methodLink RX5 28 Lib.Math.min.name ∈ fkB := fkB_in (tb_in2 (List.mem_of_getElem? (i := 51) (by decide +kernel))) rfl
theorem ml_5_34 : Cond.methodLink RX5 34 Lib.Math.max.name ∈ fkB := fkB_in (tb_in2 (List.mem_of_getElem? (i := 54) (by decide +kernel))) rfl
theorem ml_5_37 : Cond.methodLink RX5 37 yX5_whole ∈ fkB := fkB_in (tb_in3 (List.mem_of_getElem? (i := 103) (by decide +kernel))) rfl
theorem ml_6_31 : Cond.methodLinkNest RX6 31 yX0_lacks "PieFunnels" ∈ fk_nests := List.mem_of_getElem? (i := 64) (by decide +kernel)
theorem ml_6_47 : Cond.methodLink RX6 47 yX6_sayLayers ∈ fkB := fkB_in (tb_in2 (List.mem_of_getElem? (i := 140) (by decide +kernel))) rfl
theorem ml_6_51 : Cond.methodLink RX6 51 yX6_chip ∈ fkB := fkB_in (tb_in2 (List.mem_of_getElem? (i := 146) (by decide +kernel))) rfl
theorem ml_6_54 : Cond.methodLink RX6 54 yX6_turn ∈ fkB := fkB_in (tb_in2 (List.mem_of_getElem? (i := 150) (by decide +kernel))) rfl
theorem ml_6_57 : Cond.methodLink RX6 57 yX6_raise ∈ fkB := fkB_in (tb_in2 (List.mem_of_getElem? (i := 158) (by decide +kernel))) rfl
theorem ml_6_60 : Cond.methodLink RX6 60 yX6_order ∈ fkB := fkB_in (tb_in2 (List.mem_of_getElem? (i := 162) (by decide +kernel))) rfl
theorem ml_6_63 : Cond.methodLink RX6 63 yX6_doubleEach ∈ fkB := fkB_in (tb_in2 (List.mem_of_getElem? (i := 166) (by decide +kernel))) rfl
theorem ml_6_66 : Cond.methodLink RX6 66 yX6_keepEachSecond ∈ fkB := fkB_in (tb_in2 (List.mem_of_getElem? (i := 170) (by decide +kernel))) rfl
theorem ml_6_74 : Cond.methodLink RX6 74 Lib.Math.min.name ∈ fkB := fkB_in (tb_in2 (List.mem_of_getElem? (i := 144) (by decide +kernel))) rfl
theorem ml_6_80 : Cond.methodLink RX6 80 Lib.Math.max.name ∈ fkB := fkB_in (tb_in2 (List.mem_of_getElem? (i := 145) (by decide +kernel))) rfl
theorem ml_6_86 : Cond.methodLink RX6 86 yX6_swap ∈ fkB := fkB_in (tb_in2 (List.mem_of_getElem? (i := 154) (by decide +kernel))) rfl
theorem ml_6_95 : Cond.methodLinkNest RX6 95 yX5_number "PieFunnels" ∈ fk_nests := List.mem_of_getElem? (i := 79) (by decide +kernel)
theorem ml_7_105 : Cond.methodLinkNest RX7 105 yX5_hasSpan "PieFunnels" ∈ fk_nests := List.mem_of_getElem? (i := 58) (by decide +kernel)
theorem ml_7_113 : Cond.methodLink RX7 113 arraycopyName ∈ fkB := fkB_in (tb_in2 (List.mem_of_getElem? (i := 81) (by decide +kernel))) rfl
theorem ml_7_119 : Cond.methodLinkNest RX7 119 yX5_whole "PieFunnels" ∈ fk_nests := List.mem_of_getElem? (i := 59) (by decide +kernel)
theorem ml_7_123 : Cond.methodLinkNest RX7 123 yX5_holdNothing "PieFunnels" ∈ fk_nests := List.mem_of_getElem? (i := 60) (by decide +kernel)
theorem ml_7_126 : Cond.methodLinkNest RX7 126 yX0_lacks "PieFunnels" ∈ fk_nests := List.mem_of_getElem? (i := 61) (by decide +kernel)
theorem ml_7_129 : Cond.methodLinkNest RX7 129 yX5_holdBird "PieFunnels" ∈ fk_nests := List.mem_of_getElem? (i := 62) (by decide +kernel)
theorem ml_7_139 : Cond.methodLink RX7 139 yX7_refuseFar ∈ fkB := fkB_in (tb_in2 (List.mem_of_getElem? (i := 116) (by decide +kernel))) rfl
theorem ml_7_145 : Cond.methodLink RX7 145 yX7_isUnder ∈ fkB := fkB_in (tb_in2 (List.mem_of_getElem? (i := 120) (by decide +kernel))) rfl
theorem ml_7_148 : Cond.methodLinkNest RX7 148 yX6_take "PieFunnels" ∈ fk_nests := List.mem_of_getElem? (i := 63) (by decide +kernel)
theorem ml_7_155 : Cond.methodLinkNest RX7 155 yX3_setByNumber "PieFunnels" ∈ fk_nests := List.mem_of_getElem? (i := 65) (by decide +kernel)
theorem ml_7_158 : Cond.methodLinkNest RX7 158 yX6_speak "PieFunnels" ∈ fk_nests := List.mem_of_getElem? (i := 66) (by decide +kernel)
theorem ml_7_174 : Cond.methodLinkNest RX7 174 yX0_add "PieFunnels" ∈ fk_nests := List.mem_of_getElem? (i := 67) (by decide +kernel)
theorem ml_7_187 : Cond.methodLinkNest RX7 187 yX0_comingBy "PieFunnels" ∈ fk_nests := List.mem_of_getElem? (i := 68) (by decide +kernel)
theorem ml_7_190 : Cond.methodLinkNest RX7 190 yX0_setComing "PieFunnels" ∈ fk_nests := List.mem_of_getElem? (i := 69) (by decide +kernel)
theorem ml_7_199 : Cond.methodLinkNest RX7 199 yX0_become "PieFunnels" ∈ fk_nests := List.mem_of_getElem? (i := 70) (by decide +kernel)
theorem ml_7_203 : Cond.methodLinkNest RX7 203 yX4_read "PieFunnels" ∈ fk_nests := List.mem_of_getElem? (i := 71) (by decide +kernel)
theorem ml_7_210 : Cond.methodLink RX7 210 yX7_noPieOf ∈ fkB := fkB_in (tb_in3 (List.mem_of_getElem? (i := 87) (by decide +kernel))) rfl
theorem ml_7_213 : Cond.methodLink RX7 213 yX7_noPieOfWhat ∈ fkB := fkB_in (tb_in3 (List.mem_of_getElem? (i := 91) (by decide +kernel))) rfl
theorem ml_7_217 : Cond.methodLinkNest RX7 217 yX0_endOf "PieFunnels" ∈ fk_nests := List.mem_of_getElem? (i := 76) (by decide +kernel)
theorem ml_7_221 : Cond.methodLinkNest RX7 221 yX0_illsOf "PieFunnels" ∈ fk_nests := List.mem_of_getElem? (i := 77) (by decide +kernel)
theorem ml_7_225 : Cond.methodLink RX7 225 yX7_findBringing ∈ fkB := fkB_in (tb_in3 (List.mem_of_getElem? (i := 120) (by decide +kernel))) rfl
theorem ml_7_234 : Cond.methodLinkNest RX7 234 yX3_take "PieFunnels" ∈ fk_nests := List.mem_of_getElem? (i := 74) (by decide +kernel)
theorem ml_7_237 : Cond.methodLink RX7 237 yX7_kindsThatSay ∈ fkB := fkB_in (tb_in3 (List.mem_of_getElem? (i := 135) (by decide +kernel))) rfl
theorem ml_7_241 : Cond.methodLink RX7 241 yX7_heatsThatSay ∈ fkB := fkB_in (tb_in3 (List.mem_of_getElem? (i := 144) (by decide +kernel))) rfl
theorem ml_7_244 : Cond.methodLink RX7 244 yX7_mouthsThatSay ∈ fkB := fkB_in (tb_in3 (List.mem_of_getElem? (i := 148) (by decide +kernel))) rfl
theorem ml_7_247 : Cond.methodLink RX7 247 yX7_tenTo ∈ fkB := fkB_in (tb_in3 (List.mem_of_getElem? (i := 124) (by decide +kernel))) rfl
theorem ml_7_250 : Cond.methodLinkNest RX7 250 yX6_saysJust "PieFunnels" ∈ fk_nests := List.mem_of_getElem? (i := 78) (by decide +kernel)
theorem ml_7_254 : Cond.methodLink RX7 254 yX7_mostLeft ∈ fkB := fkB_in (tb_in3 (List.mem_of_getElem? (i := 160) (by decide +kernel))) rfl
theorem ml_7_257 : Cond.methodLinkNest RX7 257 yX3_unknowns "PieFunnels" ∈ fk_nests := List.mem_of_getElem? (i := 81) (by decide +kernel)
theorem ml_7_261 : Cond.methodLink RX7 261 Lib.Math.max.name ∈ fkB := fkB_in (tb_in3 (List.mem_of_getElem? (i := 168) (by decide +kernel))) rfl
theorem ml_7_266 : Cond.methodLinkNest RX7 266 yX3_fillUnknowns "PieFunnels" ∈ fk_nests := List.mem_of_getElem? (i := 82) (by decide +kernel)
theorem ml_7_271 : Cond.methodLink RX7 271 yX7_fewestIllsByLast ∈ fkB := fkB_in (tb_in3 (List.mem_of_getElem? (i := 194) (by decide +kernel))) rfl
theorem ml_7_274 : Cond.methodLinkNest RX7 274 yX2_takeWishes "PieFunnels" ∈ fk_nests := List.mem_of_getElem? (i := 84) (by decide +kernel)
theorem ml_7_280 : Cond.methodLinkNest RX7 280 yX2_bringsOf "PieFunnels" ∈ fk_nests := List.mem_of_getElem? (i := 86) (by decide +kernel)
theorem ml_7_283 : Cond.methodLinkNest RX7 283 yX2_part "PieFunnels" ∈ fk_nests := List.mem_of_getElem? (i := 87) (by decide +kernel)
theorem ml_7_289 : Cond.methodLinkNest RX7 289 yX2_whomHas "PieFunnels" ∈ fk_nests := List.mem_of_getElem? (i := 88) (by decide +kernel)
theorem ml_7_292 : Cond.methodLinkNest RX7 292 yX6_saysSame "PieFunnels" ∈ fk_nests := List.mem_of_getElem? (i := 80) (by decide +kernel)
theorem ml_7_296 : Cond.methodLinkNest RX7 296 yX5_number "PieFunnels" ∈ fk_nests := List.mem_of_getElem? (i := 89) (by decide +kernel)
theorem ml_7_299 : Cond.methodLink RX7 299 yX7_bakeInTruth ∈ fkB := fkB_in (tb_in4 (List.mem_of_getElem? (i := 2) (by decide +kernel))) rfl
theorem ml_7_302 : Cond.methodLinkNest RX7 302 yX0_draw "PieFunnels" ∈ fk_nests := List.mem_of_getElem? (i := 90) (by decide +kernel)
theorem ml_7_311 : Cond.methodLinkNest RX7 311 yX1_forget "PieFunnels" ∈ fk_nests := List.mem_of_getElem? (i := 91) (by decide +kernel)
theorem ml_7_314 : Cond.methodLinkNest RX7 314 yX1_take "PieFunnels" ∈ fk_nests := List.mem_of_getElem? (i := 92) (by decide +kernel)
theorem ml_7_318 : Cond.methodLinkNest RX7 318 yX1_run "PieFunnels" ∈ fk_nests := List.mem_of_getElem? (i := 94) (by decide +kernel)
theorem ml_7_322 : Cond.methodLinkNest RX7 322 yX1_traced "PieFunnels" ∈ fk_nests := List.mem_of_getElem? (i := 95) (by decide +kernel)
theorem ml_7_338 : Cond.methodLinkNest RX7 338 yX3_setLast "PieFunnels" ∈ fk_nests := List.mem_of_getElem? (i := 83) (by decide +kernel)
theorem ml_7_341 : Cond.methodLink RX7 341 Lib.Math.min.name ∈ fkB := fkB_in (tb_in3 (List.mem_of_getElem? (i := 203) (by decide +kernel))) rfl
theorem ml_7_75 : Cond.methodLink RX7 75 yX7_noShelf ∈ fkB := fkB_in (tb_in2 (List.mem_of_getElem? (i := 39) (by decide +kernel))) rfl
theorem ml_7_79 : Cond.methodLink RX7 79 yX7_refuse ∈ fkB := fkB_in (tb_in2 (List.mem_of_getElem? (i := 43) (by decide +kernel))) rfl
theorem ml_7_83 : Cond.methodLinkNest RX7 83 yX5_holdRow "PieFunnels" ∈ fk_nests := List.mem_of_getElem? (i := 56) (by decide +kernel)
theorem ml_7_87 : Cond.methodLink RX7 87 yX7_noRow ∈ fkB := fkB_in (tb_in2 (List.mem_of_getElem? (i := 61) (by decide +kernel))) rfl
theorem ml_7_94 : Cond.methodLinkNest RX7 94 yX5_put "PieFunnels" ∈ fk_nests := List.mem_of_getElem? (i := 57) (by decide +kernel)
theorem ml_7_98 : Cond.methodLink RX7 98 yX7_noRows ∈ fkB := fkB_in (tb_in2 (List.mem_of_getElem? (i := 65) (by decide +kernel))) rfl
theorem ml_8_102 : Cond.methodLink RX8 102 yX8_above ∈ fkB := fkB_in (tb_in4 (List.mem_of_getElem? (i := 239) (by decide +kernel))) rfl
theorem ml_8_105 : Cond.methodLink RX8 105 yX8_no10 ∈ fkB := fkB_in (tb_in4 (List.mem_of_getElem? (i := 232) (by decide +kernel))) rfl
theorem ml_8_108 : Cond.methodLink RX8 108 yX8_isUnder ∈ fkB := fkB_in (tb_in4 (List.mem_of_getElem? (i := 236) (by decide +kernel))) rfl
theorem ml_8_115 : Cond.methodLink RX8 115 yX8_tells ∈ fkB := fkB_in (tb_in5 (List.mem_of_getElem? (i := 2) (by decide +kernel))) rfl
theorem ml_8_122 : Cond.methodLink RX8 122 yX8_newBird ∈ fkB := fkB_in (tb_in5 (List.mem_of_getElem? (i := 27) (by decide +kernel))) rfl
theorem ml_8_126 : Cond.methodLink RX8 126 yX8_isState ∈ fkB := fkB_in (tb_in5 (List.mem_of_getElem? (i := 42) (by decide +kernel))) rfl
theorem ml_8_129 : Cond.methodLink RX8 129 yX8_isPart ∈ fkB := fkB_in (tb_in5 (List.mem_of_getElem? (i := 39) (by decide +kernel))) rfl
theorem ml_8_138 : Cond.methodLink RX8 138 yX8_sign ∈ fkB := fkB_in (tb_in5 (List.mem_of_getElem? (i := 65) (by decide +kernel))) rfl
theorem ml_8_142 : Cond.methodLink RX8 142 yJ0_length_8abf5 ∈ fkB := fkB_in (tb_in5 (List.mem_of_getElem? (i := 78) (by decide +kernel))) rfl
theorem ml_8_147 : Cond.methodLink RX8 147 yJ0_charAt_5068e ∈ fkB := fkB_in (tb_in5 (List.mem_of_getElem? (i := 79) (by decide +kernel))) rfl
theorem ml_8_151 : Cond.methodLink RX8 151 yX8_is ∈ fkB := fkB_in (tb_in5 (List.mem_of_getElem? (i := 80) (by decide +kernel))) rfl
theorem ml_8_155 : Cond.methodLink RX8 155 yX8_word ∈ fkB := fkB_in (tb_in5 (List.mem_of_getElem? (i := 74) (by decide +kernel))) rfl
theorem ml_8_161 : Cond.methodLink RX8 161 yX8_word_ ∈ fkB := fkB_in (tb_in5 (List.mem_of_getElem? (i := 70) (by decide +kernel))) rfl
theorem ml_8_164 : Cond.methodLink RX8 164 yX8_number ∈ fkB := fkB_in (tb_in5 (List.mem_of_getElem? (i := 84) (by decide +kernel))) rfl
theorem ml_8_177 : Cond.methodLink RX8 177 yX8_keep ∈ fkB := fkB_in (tb_in5 (List.mem_of_getElem? (i := 57) (by decide +kernel))) rfl
theorem ml_8_181 : Cond.methodLink RX8 181 yX8_item ∈ fkB := fkB_in (tb_in5 (List.mem_of_getElem? (i := 61) (by decide +kernel))) rfl
theorem ml_8_185 : Cond.methodLink RX8 185 yX8_again ∈ fkB := fkB_in (tb_in5 (List.mem_of_getElem? (i := 93) (by decide +kernel))) rfl
theorem ml_8_188 : Cond.methodLink RX8 188 yX8_toldAt ∈ fkB := fkB_in (tb_in5 (List.mem_of_getElem? (i := 113) (by decide +kernel))) rfl
theorem ml_8_192 : Cond.methodLink RX8 192 yX8_plain ∈ fkB := fkB_in (tb_in5 (List.mem_of_getElem? (i := 11) (by decide +kernel))) rfl
theorem ml_8_195 : Cond.methodLink RX8 195 yX8_chipped ∈ fkB := fkB_in (tb_in5 (List.mem_of_getElem? (i := 7) (by decide +kernel))) rfl
theorem ml_8_198 : Cond.methodLink RX8 198 Lib.Math.min.name ∈ fkB := fkB_in (tb_in5 (List.mem_of_getElem? (i := 6) (by decide +kernel))) rfl
theorem ml_8_203 : Cond.methodLink RX8 203 yX8_widowed ∈ fkB := fkB_in (tb_in5 (List.mem_of_getElem? (i := 15) (by decide +kernel))) rfl
theorem ml_8_206 : Cond.methodLink RX8 206 yX8_sorts ∈ fkB := fkB_in (tb_in5 (List.mem_of_getElem? (i := 19) (by decide +kernel))) rfl
theorem ml_8_215 : Cond.methodLink RX8 215 yX8_has ∈ fkB := fkB_in (tb_in5 (List.mem_of_getElem? (i := 125) (by decide +kernel))) rfl
theorem ml_8_218 : Cond.methodLink RX8 218 yX8_noPie ∈ fkB := fkB_in (tb_in5 (List.mem_of_getElem? (i := 105) (by decide +kernel))) rfl
theorem ml_8_221 : Cond.methodLink RX8 221 yX8_isPie ∈ fkB := fkB_in (tb_in5 (List.mem_of_getElem? (i := 109) (by decide +kernel))) rfl
theorem ml_8_224 : Cond.methodLink RX8 224 yX8_goes ∈ fkB := fkB_in (tb_in5 (List.mem_of_getElem? (i := 121) (by decide +kernel))) rfl
theorem ml_8_227 : Cond.methodLink RX8 227 yX8_pow ∈ fkB := fkB_in (tb_in5 (List.mem_of_getElem? (i := 132) (by decide +kernel))) rfl
theorem ml_8_230 : Cond.methodLink RX8 230 yX8_lays ∈ fkB := fkB_in (tb_in5 (List.mem_of_getElem? (i := 135) (by decide +kernel))) rfl
theorem ml_8_233 : Cond.methodLink RX8 233 yX8_isSaid ∈ fkB := fkB_in (tb_in5 (List.mem_of_getElem? (i := 155) (by decide +kernel))) rfl
theorem ml_8_236 : Cond.methodLink RX8 236 yX8_noRows ∈ fkB := fkB_in (tb_in5 (List.mem_of_getElem? (i := 147) (by decide +kernel))) rfl
theorem ml_8_239 : Cond.methodLink RX8 239 yX8_kindsSo ∈ fkB := fkB_in (tb_in5 (List.mem_of_getElem? (i := 151) (by decide +kernel))) rfl
theorem ml_8_242 : Cond.methodLink RX8 242 yX8_heatsSo ∈ fkB := fkB_in (tb_in5 (List.mem_of_getElem? (i := 159) (by decide +kernel))) rfl
theorem ml_8_245 : Cond.methodLink RX8 245 yX8_mouthsSo ∈ fkB := fkB_in (tb_in5 (List.mem_of_getElem? (i := 163) (by decide +kernel))) rfl
theorem ml_8_248 : Cond.methodLink RX8 248 Lib.Math.max.name ∈ fkB := fkB_in (tb_in5 (List.mem_of_getElem? (i := 179) (by decide +kernel))) rfl
theorem ml_8_251 : Cond.methodLink RX8 251 yX8_worst ∈ fkB := fkB_in (tb_in5 (List.mem_of_getElem? (i := 175) (by decide +kernel))) rfl
theorem ml_8_254 : Cond.methodLink RX8 254 yX8_unknown ∈ fkB := fkB_in (tb_in5 (List.mem_of_getElem? (i := 184) (by decide +kernel))) rfl
theorem ml_8_259 : Cond.methodLink RX8 259 yX8_fewestIlls ∈ fkB := fkB_in (tb_in5 (List.mem_of_getElem? (i := 201) (by decide +kernel))) rfl
theorem ml_8_268 : Cond.methodLink RX8 268 yX8_parts ∈ fkB := fkB_in (tb_in5 (List.mem_of_getElem? (i := 213) (by decide +kernel))) rfl
theorem ml_8_272 : Cond.methodLink RX8 272 yX8_areWishes ∈ fkB := fkB_in (tb_in5 (List.mem_of_getElem? (i := 209) (by decide +kernel))) rfl
theorem ml_8_283 : Cond.methodLink RX8 283 yX8_bakes ∈ fkB := fkB_in (tb_in5 (List.mem_of_getElem? (i := 230) (by decide +kernel))) rfl
theorem ml_8_286 : Cond.methodLink RX8 286 yX8_draw ∈ fkB := fkB_in (tb_in5 (List.mem_of_getElem? (i := 238) (by decide +kernel))) rfl
theorem ml_8_292 : Cond.methodLink RX8 292 yX8_ran ∈ fkB := fkB_in (tb_in6 (List.mem_of_getElem? (i := 15) (by decide +kernel))) rfl
theorem ml_8_295 : Cond.methodLink RX8 295 yX8_singsBy ∈ fkB := fkB_in (tb_in6 (List.mem_of_getElem? (i := 11) (by decide +kernel))) rfl
theorem ml_8_298 : Cond.methodLink RX8 298 yX8_steamsBy ∈ fkB := fkB_in (tb_in6 (List.mem_of_getElem? (i := 19) (by decide +kernel))) rfl
theorem ml_8_301 : Cond.methodLink RX8 301 yX8_fallsBy ∈ fkB := fkB_in (tb_in6 (List.mem_of_getElem? (i := 23) (by decide +kernel))) rfl
theorem ml_8_81 : Cond.methodLink RX8 81 yX8_no ∈ fkB := fkB_in (tb_in4 (List.mem_of_getElem? (i := 192) (by decide +kernel))) rfl
theorem ml_8_88 : Cond.methodLink RX8 88 yX8_within ∈ fkB := fkB_in (tb_in4 (List.mem_of_getElem? (i := 189) (by decide +kernel))) rfl
theorem ml_8_92 : Cond.methodLink RX8 92 yX8_isRow ∈ fkB := fkB_in (tb_in4 (List.mem_of_getElem? (i := 204) (by decide +kernel))) rfl
theorem ml_8_96 : Cond.methodLink RX8 96 yX8_noRow ∈ fkB := fkB_in (tb_in4 (List.mem_of_getElem? (i := 200) (by decide +kernel))) rfl
theorem ml_8_99 : Cond.methodLink RX8 99 yX8_isBird ∈ fkB := fkB_in (tb_in4 (List.mem_of_getElem? (i := 220) (by decide +kernel))) rfl
theorem wk_0_64 : Cond.constant RX0 64 (1103515245) ∈ fkB := fkB_in (tb_in4 (List.mem_of_getElem? (i := 14) (by decide +kernel))) rfl
theorem wk_7_269 : Cond.constant RX7 269 (1000000) ∈ fkB := fkB_in (tb_in3 (List.mem_of_getElem? (i := 181) (by decide +kernel))) rfl
theorem wk_7_337 : Cond.constant RX7 337 (2147483647) ∈ fkB := fkB_in (tb_in3 (List.mem_of_getElem? (i := 198) (by decide +kernel))) rfl
theorem wk_8_257 : Cond.constantLong RX8 257 (1000000) ∈ fkB := fkB_in (tb_in5 (List.mem_of_getElem? (i := 188) (by decide +kernel))) rfl
theorem wk_8_275 : Cond.constantLong RX8 275 (2) ∈ fkB := fkB_in (tb_in5 (List.mem_of_getElem? (i := 225) (by decide +kernel))) rfl
theorem wk_8_285 : Cond.constant RX8 285 (1103515245) ∈ fkB := fkB_in (tb_in6 (List.mem_of_getElem? (i := 2) (by decide +kernel))) rfl
theorem wd_max1 : Cond.static Lib.Math.max.name ∈ fkB := fkB_in (tb_in2 (List.mem_of_getElem? (i := 55) (by decide +kernel))) rfl
theorem wd_max2 : Cond.code Lib.Math.max.name Lib.Math.max.code 2 (some .int) ∈ fkB := fkB_in (tb_in2 (List.mem_of_getElem? (i := 56) rfl)) rfl
theorem wd_min1 : Cond.static Lib.Math.min.name ∈ fkB := fkB_in (tb_in2 (List.mem_of_getElem? (i := 52) (by decide +kernel))) rfl
theorem wd_min2 : Cond.code Lib.Math.min.name Lib.Math.min.code 2 (some .int) ∈ fkB := fkB_in (tb_in2 (List.mem_of_getElem? (i := 53) rfl)) rfl
theorem wd_math : Cond.initialized "java/lang/Math" ∈ fkB := fkB_in (tb_in1 (List.mem_of_getElem? (i := 10) (by decide +kernel))) rfl
end
section
theorem j_sub {w : fkW} {g : fkG} {k : fkK} {ρ : Type} {en : ρ → Option Value} {own : String} {cc : ByteArray} {nL fr lo pc : Nat} {ret : Option FieldType} {lv lv' : List (Nat × Value)} {stk : List Value} {st : fkS} {F : Option (ρ × fkS)} (hk : fk_ok w g k own cc nL ret fr lo) (ks : List Nat) (hs : lv_pick lv ks = lv') (kk : fk_J w g en k pc lv' stk st F) : fk_J w g en k pc lv stk st F := by
  intro o ho hq
  have kk := kk o ho hq
  obtain ⟨p, l, e, R, s, m, args, below, meth, c, rv, sf⟩ := k
  intro H locs ls hl hP hS
  exact kk H locs ls (lv_sub hl ks hs) hP hS
def fk_bool (x : Int32) : Bool := decide (x = 0) || decide (x = 1)
theorem fk_bool_n {x : Int32} (h : fk_bool x = true) : narrow .boolean (.int x) = .int x := by
  unfold fk_bool at h
  rcases Bool.or_eq_true_iff.mp h with h | h
  · rw [of_decide_eq_true h]; rfl
  · rw [of_decide_eq_true h]; rfl
theorem fk_lsw {ps : List (Int × Int)} {d x : Int} (h : ∀ q ∈ ps, ¬ x = q.1) : Op.lookupswitch.offset ps d x = d := by
  induction ps with
  | nil => rfl
  | cons a l ih =>
    have h1 : ¬ x = a.1 := h a List.mem_cons_self
    have h2 : ¬ a.1 = x := fun q => h1 q.symm
    have ih2 := ih (fun q hq => h q (List.mem_cons_of_mem _ hq))
    simpa [Op.lookupswitch.offset, h1, h2] using ih2
def fk_lp0 {β γ : Type} (B : (β → Option γ) → β → Option γ) : Nat → β → Option γ
  | 0 => fun _ => none
  | n + 1 => B (fk_lp0 B n)
def fk_lp1 {α0 β γ : Type} (B : (α0 → β → Option γ) → α0 → β → Option γ) : Nat → α0 → β → Option γ
  | 0 => fun _ _ => none
  | n + 1 => B (fk_lp1 B n)
def fk_lp2 {α0 α1 β γ : Type} (B : (α0 → α1 → β → Option γ) → α0 → α1 → β → Option γ) : Nat → α0 → α1 → β → Option γ
  | 0 => fun _ _ _ => none
  | n + 1 => B (fk_lp2 B n)
def fk_lp3 {α0 α1 α2 β γ : Type} (B : (α0 → α1 → α2 → β → Option γ) → α0 → α1 → α2 → β → Option γ) : Nat → α0 → α1 → α2 → β → Option γ
  | 0 => fun _ _ _ _ => none
  | n + 1 => B (fk_lp3 B n)
def fk_lp4 {α0 α1 α2 α3 β γ : Type} (B : (α0 → α1 → α2 → α3 → β → Option γ) → α0 → α1 → α2 → α3 → β → Option γ) : Nat → α0 → α1 → α2 → α3 → β → Option γ
  | 0 => fun _ _ _ _ _ => none
  | n + 1 => B (fk_lp4 B n)
def fk_lp5 {α0 α1 α2 α3 α4 β γ : Type} (B : (α0 → α1 → α2 → α3 → α4 → β → Option γ) → α0 → α1 → α2 → α3 → α4 → β → Option γ) : Nat → α0 → α1 → α2 → α3 → α4 → β → Option γ
  | 0 => fun _ _ _ _ _ _ => none
  | n + 1 => B (fk_lp5 B n)
def fk_lp6 {α0 α1 α2 α3 α4 α5 β γ : Type} (B : (α0 → α1 → α2 → α3 → α4 → α5 → β → Option γ) → α0 → α1 → α2 → α3 → α4 → α5 → β → Option γ) : Nat → α0 → α1 → α2 → α3 → α4 → α5 → β → Option γ
  | 0 => fun _ _ _ _ _ _ _ => none
  | n + 1 => B (fk_lp6 B n)
def fk_lp7 {α0 α1 α2 α3 α4 α5 α6 β γ : Type} (B : (α0 → α1 → α2 → α3 → α4 → α5 → α6 → β → Option γ) → α0 → α1 → α2 → α3 → α4 → α5 → α6 → β → Option γ) : Nat → α0 → α1 → α2 → α3 → α4 → α5 → α6 → β → Option γ
  | 0 => fun _ _ _ _ _ _ _ _ => none
  | n + 1 => B (fk_lp7 B n)
def fk_lp8 {α0 α1 α2 α3 α4 α5 α6 α7 β γ : Type} (B : (α0 → α1 → α2 → α3 → α4 → α5 → α6 → α7 → β → Option γ) → α0 → α1 → α2 → α3 → α4 → α5 → α6 → α7 → β → Option γ) : Nat → α0 → α1 → α2 → α3 → α4 → α5 → α6 → α7 → β → Option γ
  | 0 => fun _ _ _ _ _ _ _ _ _ => none
  | n + 1 => B (fk_lp8 B n)
def fk_lp9 {α0 α1 α2 α3 α4 α5 α6 α7 α8 β γ : Type} (B : (α0 → α1 → α2 → α3 → α4 → α5 → α6 → α7 → α8 → β → Option γ) → α0 → α1 → α2 → α3 → α4 → α5 → α6 → α7 → α8 → β → Option γ) : Nat → α0 → α1 → α2 → α3 → α4 → α5 → α6 → α7 → α8 → β → Option γ
  | 0 => fun _ _ _ _ _ _ _ _ _ _ => none
  | n + 1 => B (fk_lp9 B n)
end
section
theorem dX0_become_0 : decode cX0_become 0 = .ok (.aload_n 1, 1) := by decide +kernel
theorem dX0_become_1 : decode cX0_become 1 = .ok (.ifnonnull 4, 3) := by decide +kernel
theorem dX0_become_5 : decode cX0_become 5 = .ok (.aload_n 0, 1) := by decide +kernel
theorem dX0_become_6 : decode cX0_become 6 = .ok (.aload_n 1, 1) := by decide +kernel
theorem dX0_become_7 : decode cX0_become 7 = .ok (.getfield 9, 3) := by decide +kernel
theorem dX0_become_10 : decode cX0_become 10 = .ok (.putfield 9, 3) := by decide +kernel
theorem dX0_become_13 : decode cX0_become 13 = .ok (.aload_n 1, 1) := by decide +kernel
theorem dX0_become_14 : decode cX0_become 14 = .ok (.getfield 15, 3) := by decide +kernel
theorem dX0_become_17 : decode cX0_become 17 = .ok (.iconst 0, 1) := by decide +kernel
theorem dX0_become_18 : decode cX0_become 18 = .ok (.aload_n 0, 1) := by decide +kernel
theorem dX0_become_19 : decode cX0_become 19 = .ok (.getfield 15, 3) := by decide +kernel
theorem dX0_become_22 : decode cX0_become 22 = .ok (.iconst 0, 1) := by decide +kernel
theorem dX0_become_23 : decode cX0_become 23 = .ok (.bipush 7, 2) := by decide +kernel
theorem dX0_become_25 : decode cX0_become 25 = .ok (.invokestatic 46, 3) := by decide +kernel
theorem dX0_become_28 : decode cX0_become 28 = .ok (.aload_n 1, 1) := by decide +kernel
theorem dX0_become_29 : decode cX0_become 29 = .ok (.getfield 19, 3) := by decide +kernel
theorem dX0_become_32 : decode cX0_become 32 = .ok (.iconst 0, 1) := by decide +kernel
theorem dX0_become_33 : decode cX0_become 33 = .ok (.aload_n 0, 1) := by decide +kernel
theorem dX0_become_34 : decode cX0_become 34 = .ok (.getfield 19, 3) := by decide +kernel
theorem dX0_become_37 : decode cX0_become 37 = .ok (.iconst 0, 1) := by decide +kernel
theorem dX0_become_38 : decode cX0_become 38 = .ok (.bipush 7, 2) := by decide +kernel
theorem dX0_become_40 : decode cX0_become 40 = .ok (.invokestatic 46, 3) := by decide +kernel
theorem dX0_become_43 : decode cX0_become 43 = .ok (.aload_n 1, 1) := by decide +kernel
theorem dX0_become_44 : decode cX0_become 44 = .ok (.getfield 22, 3) := by decide +kernel
theorem dX0_become_47 : decode cX0_become 47 = .ok (.iconst 0, 1) := by decide +kernel
theorem dX0_become_48 : decode cX0_become 48 = .ok (.aload_n 0, 1) := by decide +kernel
theorem dX0_become_49 : decode cX0_become 49 = .ok (.getfield 22, 3) := by decide +kernel
theorem dX0_become_52 : decode cX0_become 52 = .ok (.iconst 0, 1) := by decide +kernel
theorem dX0_become_53 : decode cX0_become 53 = .ok (.bipush 7, 2) := by decide +kernel
theorem dX0_become_55 : decode cX0_become 55 = .ok (.invokestatic 46, 3) := by decide +kernel
theorem dX0_become_58 : decode cX0_become 58 = .ok (.aload_n 1, 1) := by decide +kernel
theorem dX0_become_59 : decode cX0_become 59 = .ok (.getfield 25, 3) := by decide +kernel
theorem dX0_become_62 : decode cX0_become 62 = .ok (.iconst 0, 1) := by decide +kernel
theorem dX0_become_63 : decode cX0_become 63 = .ok (.aload_n 0, 1) := by decide +kernel
theorem dX0_become_64 : decode cX0_become 64 = .ok (.getfield 25, 3) := by decide +kernel
theorem dX0_become_67 : decode cX0_become 67 = .ok (.iconst 0, 1) := by decide +kernel
theorem dX0_become_68 : decode cX0_become 68 = .ok (.bipush 40, 2) := by decide +kernel
theorem dX0_become_70 : decode cX0_become 70 = .ok (.invokestatic 46, 3) := by decide +kernel
theorem dX0_become_73 : decode cX0_become 73 = .ok (.aload_n 0, 1) := by decide +kernel
theorem dX0_become_74 : decode cX0_become 74 = .ok (.aload_n 1, 1) := by decide +kernel
theorem dX0_become_75 : decode cX0_become 75 = .ok (.getfield 28, 3) := by decide +kernel
theorem dX0_become_78 : decode cX0_become 78 = .ok (.putfield 28, 3) := by decide +kernel
theorem dX0_become_81 : decode cX0_become 81 = .ok (.aload_n 0, 1) := by decide +kernel
theorem dX0_become_82 : decode cX0_become 82 = .ok (.aload_n 1, 1) := by decide +kernel
theorem dX0_become_83 : decode cX0_become 83 = .ok (.getfield 31, 3) := by decide +kernel
theorem dX0_become_86 : decode cX0_become 86 = .ok (.putfield 31, 3) := by decide +kernel
theorem dX0_become_89 : decode cX0_become 89 = .ok (.aload_n 0, 1) := by decide +kernel
theorem dX0_become_90 : decode cX0_become 90 = .ok (.aload_n 1, 1) := by decide +kernel
theorem dX0_become_91 : decode cX0_become 91 = .ok (.getfield 34, 3) := by decide +kernel
theorem dX0_become_94 : decode cX0_become 94 = .ok (.putfield 34, 3) := by decide +kernel
theorem dX0_become_97 : decode cX0_become 97 = .ok (.aload_n 0, 1) := by decide +kernel
theorem dX0_become_98 : decode cX0_become 98 = .ok (.aload_n 1, 1) := by decide +kernel
theorem dX0_become_99 : decode cX0_become 99 = .ok (.getfield 37, 3) := by decide +kernel
theorem dX0_become_102 : decode cX0_become 102 = .ok (.putfield 37, 3) := by decide +kernel
theorem dX0_become_105 : decode cX0_become 105 = .ok (.aload_n 0, 1) := by decide +kernel
theorem dX0_become_106 : decode cX0_become 106 = .ok (.aload_n 1, 1) := by decide +kernel
theorem dX0_become_107 : decode cX0_become 107 = .ok (.getfield 40, 3) := by decide +kernel
theorem dX0_become_110 : decode cX0_become 110 = .ok (.putfield 40, 3) := by decide +kernel
theorem dX0_become_113 : decode cX0_become 113 = .ok (.aload_n 0, 1) := by decide +kernel
theorem dX0_become_114 : decode cX0_become 114 = .ok (.aload_n 1, 1) := by decide +kernel
theorem dX0_become_115 : decode cX0_become 115 = .ok (.getfield 43, 3) := by decide +kernel
theorem dX0_become_118 : decode cX0_become 118 = .ok (.putfield 43, 3) := by decide +kernel
theorem dX0_become_121 : decode cX0_become 121 = .ok (.return_, 1) := by decide +kernel
def F0_become (h : Nat) (o1 : Nat) (st : fkS) : Option (Unit × fkS) :=
fk_let (gI st 0 o1) <| fun x1 =>
fk_let (sI st 0 h x1) <| fun st2 =>
fk_chk (fk_cp (0 : Int32) (0 : Int32) (7 : Int32) 7 7) <| fk_let (sAF st2 (h + 3) (va_cpy (gA st2 (o1 + 3)) (gA st2 (h + 3)) (0 : Int32).toNatClampNeg (0 : Int32).toNatClampNeg (7 : Int32).toNatClampNeg)) <| fun st3 =>
fk_chk (fk_cp (0 : Int32) (0 : Int32) (7 : Int32) 7 7) <| fk_let (sAF st3 (h + 6) (va_cpy (gA st3 (o1 + 6)) (gA st3 (h + 6)) (0 : Int32).toNatClampNeg (0 : Int32).toNatClampNeg (7 : Int32).toNatClampNeg)) <| fun st4 =>
fk_chk (fk_cp (0 : Int32) (0 : Int32) (7 : Int32) 7 7) <| fk_let (sAF st4 (h + 9) (va_cpy (gA st4 (o1 + 9)) (gA st4 (h + 9)) (0 : Int32).toNatClampNeg (0 : Int32).toNatClampNeg (7 : Int32).toNatClampNeg)) <| fun st5 =>
fk_chk (fk_cp (0 : Int32) (0 : Int32) (40 : Int32) 40 40) <| fk_let (sAF st5 (h + 12) (va_cpy (gA st5 (o1 + 12)) (gA st5 (h + 12)) (0 : Int32).toNatClampNeg (0 : Int32).toNatClampNeg (40 : Int32).toNatClampNeg)) <| fun st6 =>
fk_let (gI st6 5 o1) <| fun x7 =>
fk_let (sI st6 5 h x7) <| fun st8 =>
fk_let (gI st8 6 o1) <| fun x9 =>
fk_let (sI st8 6 h x9) <| fun st10 =>
fk_let (gI st10 7 o1) <| fun x11 =>
fk_let (sI st10 7 h x11) <| fun st12 =>
fk_let (gI st12 8 o1) <| fun x13 =>
fk_let (sI st12 8 h x13) <| fun st14 =>
fk_let (gI st14 9 o1) <| fun x15 =>
fk_let (sI st14 9 h x15) <| fun st16 =>
fk_let (gI st16 10 o1) <| fun x17 =>
fk_let (sI st16 10 h x17) <| fun st18 =>
some ((), st18)
set_option maxHeartbeats 1000000 in
set_option maxRecDepth 20000 in
theorem C0_become (h : Nat) (o1 : Nat) (hh : kdC h = 0) (ho1 : kdC o1 = 0) (st : fkS) {g : fkG} (l : Launch) (o : Unit × fkS) (hF : F0_become h o1 st = some o) : fk_C wC yX0_become cX0_become 2 none 1 100 l g [fk_r g h, fk_r g o1] st (fk_eU o.1) o.2 := by
  refine fk_begin rfl (Nat.le_of_ble_eq_true rfl) (fun k hk => ?_) o hF
  have hk : fk_ok wC g k RX0 cX0_become 2 none 1 100 := hk
  show fk_J wC g fk_eU k 0 [(0, fk_r g h), (1, fk_r g o1)] [] st (F0_become h o1 st)
  unfold F0_become
  refine j_aload_n (pc := 0) hk 1 rfl ⟨_, rfl⟩ dX0_become_0 ?_
  refine j_ifnonnullR (tgt := 5) (pc := 1) hk ⟨_, rfl⟩ (by decide) dX0_become_1 ?_
  refine j_aload_n (pc := 5) hk 0 rfl ⟨_, rfl⟩ dX0_become_5 ?_
  refine j_aload_n (pc := 6) hk 1 rfl ⟨_, rfl⟩ dX0_become_6 ?_
  refine f_0_9 (pc := 7) hk (ho1) dX0_become_7 (fun x1 => ?_)
  refine p_0_9 (pc := 10) hk (hh) dX0_become_10 (fun st2 => ?_)
  refine j_aload_n (pc := 13) hk 1 rfl ⟨_, rfl⟩ dX0_become_13 ?_
  refine f_0_15 (pc := 14) hk (ho1) dX0_become_14 ?_
  refine j_iconst (pc := 17) hk dX0_become_17 (v := 0) (by decide) ?_
  refine j_aload_n (pc := 18) hk 0 rfl ⟨_, rfl⟩ dX0_become_18 ?_
  refine f_0_15 (pc := 19) hk (hh) dX0_become_19 ?_
  refine j_iconst (pc := 22) hk dX0_become_22 (v := 0) (by decide) ?_
  refine j_bipush (pc := 23) hk dX0_become_23 (v := 7) (by decide) ?_
  refine a_icopy (pc := 25) hk (isI_0_1 (ho1)) (isI_0_1 (hh)) ml_0_46 (Nat.le_of_ble_eq_true rfl) (Nat.le_of_ble_eq_true rfl) dX0_become_25 (fun st3 => ?_)
  refine j_aload_n (pc := 28) hk 1 rfl ⟨_, rfl⟩ dX0_become_28 ?_
  refine f_0_19 (pc := 29) hk (ho1) dX0_become_29 ?_
  refine j_iconst (pc := 32) hk dX0_become_32 (v := 0) (by decide) ?_
  refine j_aload_n (pc := 33) hk 0 rfl ⟨_, rfl⟩ dX0_become_33 ?_
  refine f_0_19 (pc := 34) hk (hh) dX0_become_34 ?_
  refine j_iconst (pc := 37) hk dX0_become_37 (v := 0) (by decide) ?_
  refine j_bipush (pc := 38) hk dX0_become_38 (v := 7) (by decide) ?_
  refine a_icopy (pc := 40) hk (isI_0_2 (ho1)) (isI_0_2 (hh)) ml_0_46 (Nat.le_of_ble_eq_true rfl) (Nat.le_of_ble_eq_true rfl) dX0_become_40 (fun st4 => ?_)
  refine j_aload_n (pc := 43) hk 1 rfl ⟨_, rfl⟩ dX0_become_43 ?_
  refine f_0_22 (pc := 44) hk (ho1) dX0_become_44 ?_
  refine j_iconst (pc := 47) hk dX0_become_47 (v := 0) (by decide) ?_
  refine j_aload_n (pc := 48) hk 0 rfl ⟨_, rfl⟩ dX0_become_48 ?_
  refine f_0_22 (pc := 49) hk (hh) dX0_become_49 ?_
  refine j_iconst (pc := 52) hk dX0_become_52 (v := 0) (by decide) ?_
  refine j_bipush (pc := 53) hk dX0_become_53 (v := 7) (by decide) ?_
  refine a_icopy (pc := 55) hk (isI_0_3 (ho1)) (isI_0_3 (hh)) ml_0_46 (Nat.le_of_ble_eq_true rfl) (Nat.le_of_ble_eq_true rfl) dX0_become_55 (fun st5 => ?_)
  refine j_aload_n (pc := 58) hk 1 rfl ⟨_, rfl⟩ dX0_become_58 ?_
  refine f_0_25 (pc := 59) hk (ho1) dX0_become_59 ?_
  refine j_iconst (pc := 62) hk dX0_become_62 (v := 0) (by decide) ?_
  refine j_aload_n (pc := 63) hk 0 rfl ⟨_, rfl⟩ dX0_become_63 ?_
  refine f_0_25 (pc := 64) hk (hh) dX0_become_64 ?_
  refine j_iconst (pc := 67) hk dX0_become_67 (v := 0) (by decide) ?_
  refine j_bipush (pc := 68) hk dX0_become_68 (v := 40) (by decide) ?_
  refine a_icopy (pc := 70) hk (isI_0_4 (ho1)) (isI_0_4 (hh)) ml_0_46 (Nat.le_of_ble_eq_true rfl) (Nat.le_of_ble_eq_true rfl) dX0_become_70 (fun st6 => ?_)
  refine j_aload_n (pc := 73) hk 0 rfl ⟨_, rfl⟩ dX0_become_73 ?_
  refine j_aload_n (pc := 74) hk 1 rfl ⟨_, rfl⟩ dX0_become_74 ?_
  refine f_0_28 (pc := 75) hk (ho1) dX0_become_75 (fun x7 => ?_)
  refine p_0_28 (pc := 78) hk (hh) dX0_become_78 (fun st8 => ?_)
  refine j_aload_n (pc := 81) hk 0 rfl ⟨_, rfl⟩ dX0_become_81 ?_
  refine j_aload_n (pc := 82) hk 1 rfl ⟨_, rfl⟩ dX0_become_82 ?_
  refine f_0_31 (pc := 83) hk (ho1) dX0_become_83 (fun x9 => ?_)
  refine p_0_31 (pc := 86) hk (hh) dX0_become_86 (fun st10 => ?_)
  refine j_aload_n (pc := 89) hk 0 rfl ⟨_, rfl⟩ dX0_become_89 ?_
  refine j_aload_n (pc := 90) hk 1 rfl ⟨_, rfl⟩ dX0_become_90 ?_
  refine f_0_34 (pc := 91) hk (ho1) dX0_become_91 (fun x11 => ?_)
  refine p_0_34 (pc := 94) hk (hh) dX0_become_94 (fun st12 => ?_)
  refine j_aload_n (pc := 97) hk 0 rfl ⟨_, rfl⟩ dX0_become_97 ?_
  refine j_aload_n (pc := 98) hk 1 rfl ⟨_, rfl⟩ dX0_become_98 ?_
  refine f_0_37 (pc := 99) hk (ho1) dX0_become_99 (fun x13 => ?_)
  refine p_0_37 (pc := 102) hk (hh) dX0_become_102 (fun st14 => ?_)
  refine j_aload_n (pc := 105) hk 0 rfl ⟨_, rfl⟩ dX0_become_105 ?_
  refine j_aload_n (pc := 106) hk 1 rfl ⟨_, rfl⟩ dX0_become_106 ?_
  refine f_0_40 (pc := 107) hk (ho1) dX0_become_107 (fun x15 => ?_)
  refine p_0_40 (pc := 110) hk (hh) dX0_become_110 (fun st16 => ?_)
  refine j_aload_n (pc := 113) hk 0 rfl ⟨_, rfl⟩ dX0_become_113 ?_
  refine j_aload_n (pc := 114) hk 1 rfl ⟨_, rfl⟩ dX0_become_114 ?_
  refine f_0_43 (pc := 115) hk (ho1) dX0_become_115 (fun x17 => ?_)
  refine p_0_43 (pc := 118) hk (hh) dX0_become_118 (fun st18 => ?_)
  exact j_vret (pc := 121) hk dX0_become_121
theorem dX0_lacks_0 : decode cX0_lacks 0 = .ok (.iload_n 1, 1) := by decide +kernel
theorem dX0_lacks_1 : decode cX0_lacks 1 = .ok (.ifCond .lt 17, 3) := by decide +kernel
theorem dX0_lacks_4 : decode cX0_lacks 4 = .ok (.iload_n 1, 1) := by decide +kernel
theorem dX0_lacks_5 : decode cX0_lacks 5 = .ok (.aload_n 0, 1) := by decide +kernel
theorem dX0_lacks_6 : decode cX0_lacks 6 = .ok (.getfield 9, 3) := by decide +kernel
theorem dX0_lacks_9 : decode cX0_lacks 9 = .ok (.if_icmp .ge 9, 3) := by decide +kernel
theorem dX0_lacks_12 : decode cX0_lacks 12 = .ok (.iload_n 1, 1) := by decide +kernel
theorem dX0_lacks_13 : decode cX0_lacks 13 = .ok (.bipush 7, 2) := by decide +kernel
theorem dX0_lacks_15 : decode cX0_lacks 15 = .ok (.if_icmp .lt 7, 3) := by decide +kernel
theorem dX0_lacks_18 : decode cX0_lacks 18 = .ok (.iconst 1, 1) := by decide +kernel
theorem dX0_lacks_19 : decode cX0_lacks 19 = .ok (.goto 4, 3) := by decide +kernel
theorem dX0_lacks_22 : decode cX0_lacks 22 = .ok (.iconst 0, 1) := by decide +kernel
theorem dX0_lacks_23 : decode cX0_lacks 23 = .ok (.ireturn, 1) := by decide +kernel
def F0_lacks (h : Nat) (p1 : Int32) (st : fkS) : Option (Int32 × fkS) :=
if p1 < 0 then
(some ((1 : Int32), st))
else
(fk_let (gI st 0 h) <| fun x1 =>
if x1 ≤ p1 then
(some ((1 : Int32), st))
else
(if p1 < (7 : Int32) then
(some ((0 : Int32), st))
else
(some ((1 : Int32), st))))
set_option maxHeartbeats 1000000 in
set_option maxRecDepth 20000 in
theorem C0_lacks (h : Nat) (hh : kdC h = 0) (p1 : Int32) (st : fkS) {g : fkG} (l : Launch) (o : Int32 × fkS) (hF : F0_lacks h p1 st = some o) : fk_C wC yX0_lacks cX0_lacks 2 (some (.boolean)) 0 0 l g [fk_r g h, .int p1] st (fk_eI o.1) o.2 := by
  refine fk_begin rfl (Nat.le_of_ble_eq_true rfl) (fun k hk => ?_) o hF
  have hk : fk_ok wC g k RX0 cX0_lacks 2 (some (.boolean)) 0 0 := hk
  show fk_J wC g fk_eI k 0 [(0, fk_r g h), (1, .int p1)] [] st (F0_lacks h p1 st)
  unfold F0_lacks
  refine j_iload_n (pc := 0) hk 1 rfl dX0_lacks_0 ?_
  refine j_if_lt (tgt := 18) (pc := 1) hk (by decide) dX0_lacks_1 (fun _ => ?_) (fun _ => ?_)
  · refine j_iconst (pc := 18) hk dX0_lacks_18 (v := 1) (by decide) ?_
    refine j_goto (tgt := 23) (pc := 19) hk (by decide) dX0_lacks_19 ?_
    exact j_zret (pc := 23) hk rfl dX0_lacks_23
  · refine j_iload_n (pc := 4) hk 1 rfl dX0_lacks_4 ?_
    refine j_aload_n (pc := 5) hk 0 rfl ⟨_, rfl⟩ dX0_lacks_5 ?_
    refine f_0_9 (pc := 6) hk (hh) dX0_lacks_6 (fun x1 => ?_)
    refine j_icmp_ge (tgt := 18) (pc := 9) hk (by decide) dX0_lacks_9 (fun _ => ?_) (fun _ => ?_)
    · refine j_iconst (pc := 18) hk dX0_lacks_18 (v := 1) (by decide) ?_
      refine j_goto (tgt := 23) (pc := 19) hk (by decide) dX0_lacks_19 ?_
      exact j_zret (pc := 23) hk rfl dX0_lacks_23
    · refine j_iload_n (pc := 12) hk 1 rfl dX0_lacks_12 ?_
      refine j_bipush (pc := 13) hk dX0_lacks_13 (v := 7) (by decide) ?_
      refine j_icmp_lt (tgt := 22) (pc := 15) hk (by decide) dX0_lacks_15 (fun _ => ?_) (fun _ => ?_)
      · refine j_iconst (pc := 22) hk dX0_lacks_22 (v := 0) (by decide) ?_
        exact j_zret (pc := 23) hk rfl dX0_lacks_23
      · refine j_iconst (pc := 18) hk dX0_lacks_18 (v := 1) (by decide) ?_
        refine j_goto (tgt := 23) (pc := 19) hk (by decide) dX0_lacks_19 ?_
        exact j_zret (pc := 23) hk rfl dX0_lacks_23
theorem dX0_add_0 : decode cX0_add 0 = .ok (.aload_n 0, 1) := by decide +kernel
theorem dX0_add_1 : decode cX0_add 1 = .ok (.getfield 9, 3) := by decide +kernel
theorem dX0_add_4 : decode cX0_add 4 = .ok (.ifCond .lt 12, 3) := by decide +kernel
theorem dX0_add_7 : decode cX0_add 7 = .ok (.aload_n 0, 1) := by decide +kernel
theorem dX0_add_8 : decode cX0_add 8 = .ok (.getfield 9, 3) := by decide +kernel
theorem dX0_add_11 : decode cX0_add 11 = .ok (.bipush 7, 2) := by decide +kernel
theorem dX0_add_13 : decode cX0_add 13 = .ok (.if_icmp .lt 4, 3) := by decide +kernel
theorem dX0_add_16 : decode cX0_add 16 = .ok (.return_, 1) := by decide +kernel
theorem dX0_add_17 : decode cX0_add 17 = .ok (.aload_n 0, 1) := by decide +kernel
theorem dX0_add_18 : decode cX0_add 18 = .ok (.getfield 15, 3) := by decide +kernel
theorem dX0_add_21 : decode cX0_add 21 = .ok (.aload_n 0, 1) := by decide +kernel
theorem dX0_add_22 : decode cX0_add 22 = .ok (.getfield 9, 3) := by decide +kernel
theorem dX0_add_25 : decode cX0_add 25 = .ok (.iload_n 1, 1) := by decide +kernel
theorem dX0_add_26 : decode cX0_add 26 = .ok (.iastore, 1) := by decide +kernel
theorem dX0_add_27 : decode cX0_add 27 = .ok (.aload_n 0, 1) := by decide +kernel
theorem dX0_add_28 : decode cX0_add 28 = .ok (.getfield 19, 3) := by decide +kernel
theorem dX0_add_31 : decode cX0_add 31 = .ok (.aload_n 0, 1) := by decide +kernel
theorem dX0_add_32 : decode cX0_add 32 = .ok (.getfield 9, 3) := by decide +kernel
theorem dX0_add_35 : decode cX0_add 35 = .ok (.iload_n 2, 1) := by decide +kernel
theorem dX0_add_36 : decode cX0_add 36 = .ok (.iastore, 1) := by decide +kernel
theorem dX0_add_37 : decode cX0_add 37 = .ok (.aload_n 0, 1) := by decide +kernel
theorem dX0_add_38 : decode cX0_add 38 = .ok (.getfield 22, 3) := by decide +kernel
theorem dX0_add_41 : decode cX0_add 41 = .ok (.aload_n 0, 1) := by decide +kernel
theorem dX0_add_42 : decode cX0_add 42 = .ok (.getfield 9, 3) := by decide +kernel
theorem dX0_add_45 : decode cX0_add 45 = .ok (.iload_n 3, 1) := by decide +kernel
theorem dX0_add_46 : decode cX0_add 46 = .ok (.iastore, 1) := by decide +kernel
theorem dX0_add_47 : decode cX0_add 47 = .ok (.aload_n 0, 1) := by decide +kernel
theorem dX0_add_48 : decode cX0_add 48 = .ok (.dup, 1) := by decide +kernel
theorem dX0_add_49 : decode cX0_add 49 = .ok (.getfield 9, 3) := by decide +kernel
theorem dX0_add_52 : decode cX0_add 52 = .ok (.iconst 1, 1) := by decide +kernel
theorem dX0_add_53 : decode cX0_add 53 = .ok (.iadd, 1) := by decide +kernel
theorem dX0_add_54 : decode cX0_add 54 = .ok (.putfield 9, 3) := by decide +kernel
theorem dX0_add_57 : decode cX0_add 57 = .ok (.return_, 1) := by decide +kernel
def F0_add (h : Nat) (p1 : Int32) (p2 : Int32) (p3 : Int32) (st : fkS) : Option (Unit × fkS) :=
fk_let (gI st 0 h) <| fun x1 =>
if x1 < 0 then
(some ((), st))
else
(fk_let (gI st 0 h) <| fun x2 =>
if x2 < (7 : Int32) then
(fk_let (gI st 0 h) <| fun x3 =>
fk_chk (fk_in x3 7) <| fk_let (sA st (h + 3) x3.toNatClampNeg p1) <| fun st4 =>
fk_let (gI st4 0 h) <| fun x5 =>
fk_chk (fk_in x5 7) <| fk_let (sA st4 (h + 6) x5.toNatClampNeg p2) <| fun st6 =>
fk_let (gI st6 0 h) <| fun x7 =>
fk_chk (fk_in x7 7) <| fk_let (sA st6 (h + 9) x7.toNatClampNeg p3) <| fun st8 =>
fk_let (gI st8 0 h) <| fun x9 =>
fk_let (sI st8 0 h (x9 + (1 : Int32))) <| fun st10 =>
some ((), st10))
else
(some ((), st)))
set_option maxHeartbeats 1000000 in
set_option maxRecDepth 20000 in
theorem C0_add (h : Nat) (hh : kdC h = 0) (p1 : Int32) (p2 : Int32) (p3 : Int32) (st : fkS) {g : fkG} (l : Launch) (o : Unit × fkS) (hF : F0_add h p1 p2 p3 st = some o) : fk_C wC yX0_add cX0_add 4 none 0 0 l g [fk_r g h, .int p1, .int p2, .int p3] st (fk_eU o.1) o.2 := by
  refine fk_begin rfl (Nat.le_of_ble_eq_true rfl) (fun k hk => ?_) o hF
  have hk : fk_ok wC g k RX0 cX0_add 4 none 0 0 := hk
  show fk_J wC g fk_eU k 0 [(0, fk_r g h), (1, .int p1), (2, .int p2), (3, .int p3)] [] st (F0_add h p1 p2 p3 st)
  unfold F0_add
  refine j_aload_n (pc := 0) hk 0 rfl ⟨_, rfl⟩ dX0_add_0 ?_
  refine f_0_9 (pc := 1) hk (hh) dX0_add_1 (fun x1 => ?_)
  refine j_if_lt (tgt := 16) (pc := 4) hk (by decide) dX0_add_4 (fun _ => ?_) (fun _ => ?_)
  · exact j_vret (pc := 16) hk dX0_add_16
  · refine j_aload_n (pc := 7) hk 0 rfl ⟨_, rfl⟩ dX0_add_7 ?_
    refine f_0_9 (pc := 8) hk (hh) dX0_add_8 (fun x2 => ?_)
    refine j_bipush (pc := 11) hk dX0_add_11 (v := 7) (by decide) ?_
    refine j_icmp_lt (tgt := 17) (pc := 13) hk (by decide) dX0_add_13 (fun _ => ?_) (fun _ => ?_)
    · refine j_aload_n (pc := 17) hk 0 rfl ⟨_, rfl⟩ dX0_add_17 ?_
      refine f_0_15 (pc := 18) hk (hh) dX0_add_18 ?_
      refine j_aload_n (pc := 21) hk 0 rfl ⟨_, rfl⟩ dX0_add_21 ?_
      refine f_0_9 (pc := 22) hk (hh) dX0_add_22 (fun x3 => ?_)
      refine j_iload_n (pc := 25) hk 1 rfl dX0_add_25 ?_
      refine a_istore (pc := 26) hk (isI_0_1 (hh)) dX0_add_26 (fun st4 => ?_)
      refine j_aload_n (pc := 27) hk 0 rfl ⟨_, rfl⟩ dX0_add_27 ?_
      refine f_0_19 (pc := 28) hk (hh) dX0_add_28 ?_
      refine j_aload_n (pc := 31) hk 0 rfl ⟨_, rfl⟩ dX0_add_31 ?_
      refine f_0_9 (pc := 32) hk (hh) dX0_add_32 (fun x5 => ?_)
      refine j_iload_n (pc := 35) hk 2 rfl dX0_add_35 ?_
      refine a_istore (pc := 36) hk (isI_0_2 (hh)) dX0_add_36 (fun st6 => ?_)
      refine j_aload_n (pc := 37) hk 0 rfl ⟨_, rfl⟩ dX0_add_37 ?_
      refine f_0_22 (pc := 38) hk (hh) dX0_add_38 ?_
      refine j_aload_n (pc := 41) hk 0 rfl ⟨_, rfl⟩ dX0_add_41 ?_
      refine f_0_9 (pc := 42) hk (hh) dX0_add_42 (fun x7 => ?_)
      refine j_iload_n (pc := 45) hk 3 rfl dX0_add_45 ?_
      refine a_istore (pc := 46) hk (isI_0_3 (hh)) dX0_add_46 (fun st8 => ?_)
      refine j_aload_n (pc := 47) hk 0 rfl ⟨_, rfl⟩ dX0_add_47 ?_
      refine j_dup (pc := 48) hk rfl dX0_add_48 ?_
      refine f_0_9 (pc := 49) hk (hh) dX0_add_49 (fun x9 => ?_)
      refine j_iconst (pc := 52) hk dX0_add_52 (v := 1) (by decide) ?_
      refine j_iadd (pc := 53) hk dX0_add_53 ?_
      refine p_0_9 (pc := 54) hk (hh) dX0_add_54 (fun st10 => ?_)
      exact j_vret (pc := 57) hk dX0_add_57
    · exact j_vret (pc := 16) hk dX0_add_16
theorem dX0_comingBy_0 : decode cX0_comingBy 0 = .ok (.iload_n 1, 1) := by decide +kernel
theorem dX0_comingBy_1 : decode cX0_comingBy 1 = .ok (.ifCond .lt 18, 3) := by decide +kernel
theorem dX0_comingBy_4 : decode cX0_comingBy 4 = .ok (.iload_n 1, 1) := by decide +kernel
theorem dX0_comingBy_5 : decode cX0_comingBy 5 = .ok (.bipush 8, 2) := by decide +kernel
theorem dX0_comingBy_7 : decode cX0_comingBy 7 = .ok (.if_icmp .ge 12, 3) := by decide +kernel
theorem dX0_comingBy_10 : decode cX0_comingBy 10 = .ok (.iload_n 2, 1) := by decide +kernel
theorem dX0_comingBy_11 : decode cX0_comingBy 11 = .ok (.ifCond .lt 8, 3) := by decide +kernel
theorem dX0_comingBy_14 : decode cX0_comingBy 14 = .ok (.iload_n 2, 1) := by decide +kernel
theorem dX0_comingBy_15 : decode cX0_comingBy 15 = .ok (.iconst 5, 1) := by decide +kernel
theorem dX0_comingBy_16 : decode cX0_comingBy 16 = .ok (.if_icmp .lt 5, 3) := by decide +kernel
theorem dX0_comingBy_19 : decode cX0_comingBy 19 = .ok (.iconst (-1), 1) := by decide +kernel
theorem dX0_comingBy_20 : decode cX0_comingBy 20 = .ok (.ireturn, 1) := by decide +kernel
theorem dX0_comingBy_21 : decode cX0_comingBy 21 = .ok (.aload_n 0, 1) := by decide +kernel
theorem dX0_comingBy_22 : decode cX0_comingBy 22 = .ok (.getfield 25, 3) := by decide +kernel
theorem dX0_comingBy_25 : decode cX0_comingBy 25 = .ok (.iload_n 1, 1) := by decide +kernel
theorem dX0_comingBy_26 : decode cX0_comingBy 26 = .ok (.iconst 5, 1) := by decide +kernel
theorem dX0_comingBy_27 : decode cX0_comingBy 27 = .ok (.imul, 1) := by decide +kernel
theorem dX0_comingBy_28 : decode cX0_comingBy 28 = .ok (.iload_n 2, 1) := by decide +kernel
theorem dX0_comingBy_29 : decode cX0_comingBy 29 = .ok (.iadd, 1) := by decide +kernel
theorem dX0_comingBy_30 : decode cX0_comingBy 30 = .ok (.iaload, 1) := by decide +kernel
theorem dX0_comingBy_31 : decode cX0_comingBy 31 = .ok (.ireturn, 1) := by decide +kernel
def F0_comingBy (h : Nat) (p1 : Int32) (p2 : Int32) (st : fkS) : Option (Int32 × fkS) :=
if p1 < 0 then
(some ((-1 : Int32), st))
else
(if (8 : Int32) ≤ p1 then
(some ((-1 : Int32), st))
else
(if p2 < 0 then
(some ((-1 : Int32), st))
else
(if p2 < (5 : Int32) then
(fk_chk (fk_in ((p1 * (5 : Int32)) + p2) 40) <| fk_let (gA st (h + 12) ((p1 * (5 : Int32)) + p2).toNatClampNeg) <| fun x1 =>
some (x1, st))
else
(some ((-1 : Int32), st)))))
set_option maxHeartbeats 1000000 in
set_option maxRecDepth 20000 in
theorem C0_comingBy (h : Nat) (hh : kdC h = 0) (p1 : Int32) (p2 : Int32) (st : fkS) {g : fkG} (l : Launch) (o : Int32 × fkS) (hF : F0_comingBy h p1 p2 st = some o) : fk_C wC yX0_comingBy cX0_comingBy 3 (some (.int)) 0 0 l g [fk_r g h, .int p1, .int p2] st (fk_eI o.1) o.2 := by
  refine fk_begin rfl (Nat.le_of_ble_eq_true rfl) (fun k hk => ?_) o hF
  have hk : fk_ok wC g k RX0 cX0_comingBy 3 (some (.int)) 0 0 := hk
  show fk_J wC g fk_eI k 0 [(0, fk_r g h), (1, .int p1), (2, .int p2)] [] st (F0_comingBy h p1 p2 st)
  unfold F0_comingBy
  refine j_iload_n (pc := 0) hk 1 rfl dX0_comingBy_0 ?_
  refine j_if_lt (tgt := 19) (pc := 1) hk (by decide) dX0_comingBy_1 (fun _ => ?_) (fun _ => ?_)
  · refine j_iconst (pc := 19) hk dX0_comingBy_19 (v := -1) (by decide) ?_
    exact j_iret (pc := 20) hk dX0_comingBy_20
  · refine j_iload_n (pc := 4) hk 1 rfl dX0_comingBy_4 ?_
    refine j_bipush (pc := 5) hk dX0_comingBy_5 (v := 8) (by decide) ?_
    refine j_icmp_ge (tgt := 19) (pc := 7) hk (by decide) dX0_comingBy_7 (fun _ => ?_) (fun _ => ?_)
    · refine j_iconst (pc := 19) hk dX0_comingBy_19 (v := -1) (by decide) ?_
      exact j_iret (pc := 20) hk dX0_comingBy_20
    · refine j_iload_n (pc := 10) hk 2 rfl dX0_comingBy_10 ?_
      refine j_if_lt (tgt := 19) (pc := 11) hk (by decide) dX0_comingBy_11 (fun _ => ?_) (fun _ => ?_)
      · refine j_iconst (pc := 19) hk dX0_comingBy_19 (v := -1) (by decide) ?_
        exact j_iret (pc := 20) hk dX0_comingBy_20
      · refine j_iload_n (pc := 14) hk 2 rfl dX0_comingBy_14 ?_
        refine j_iconst (pc := 15) hk dX0_comingBy_15 (v := 5) (by decide) ?_
        refine j_icmp_lt (tgt := 21) (pc := 16) hk (by decide) dX0_comingBy_16 (fun _ => ?_) (fun _ => ?_)
        · refine j_aload_n (pc := 21) hk 0 rfl ⟨_, rfl⟩ dX0_comingBy_21 ?_
          refine f_0_25 (pc := 22) hk (hh) dX0_comingBy_22 ?_
          refine j_iload_n (pc := 25) hk 1 rfl dX0_comingBy_25 ?_
          refine j_iconst (pc := 26) hk dX0_comingBy_26 (v := 5) (by decide) ?_
          refine j_imul (pc := 27) hk dX0_comingBy_27 ?_
          refine j_iload_n (pc := 28) hk 2 rfl dX0_comingBy_28 ?_
          refine j_iadd (pc := 29) hk dX0_comingBy_29 ?_
          refine a_iload (pc := 30) hk (isI_0_4 (hh)) dX0_comingBy_30 (fun x1 => ?_)
          exact j_iret (pc := 31) hk dX0_comingBy_31
        · refine j_iconst (pc := 19) hk dX0_comingBy_19 (v := -1) (by decide) ?_
          exact j_iret (pc := 20) hk dX0_comingBy_20
theorem dX0_setComing_0 : decode cX0_setComing 0 = .ok (.aload_n 0, 1) := by decide +kernel
theorem dX0_setComing_1 : decode cX0_setComing 1 = .ok (.iload_n 1, 1) := by decide +kernel
theorem dX0_setComing_2 : decode cX0_setComing 2 = .ok (.iload_n 2, 1) := by decide +kernel
theorem dX0_setComing_3 : decode cX0_setComing 3 = .ok (.invokevirtual 52, 3) := by decide +kernel
theorem dX0_setComing_6 : decode cX0_setComing 6 = .ok (.iconst (-1), 1) := by decide +kernel
theorem dX0_setComing_7 : decode cX0_setComing 7 = .ok (.if_icmp .eq 14, 3) := by decide +kernel
theorem dX0_setComing_10 : decode cX0_setComing 10 = .ok (.aload_n 0, 1) := by decide +kernel
theorem dX0_setComing_11 : decode cX0_setComing 11 = .ok (.getfield 25, 3) := by decide +kernel
theorem dX0_setComing_14 : decode cX0_setComing 14 = .ok (.iload_n 1, 1) := by decide +kernel
theorem dX0_setComing_15 : decode cX0_setComing 15 = .ok (.iconst 5, 1) := by decide +kernel
theorem dX0_setComing_16 : decode cX0_setComing 16 = .ok (.imul, 1) := by decide +kernel
theorem dX0_setComing_17 : decode cX0_setComing 17 = .ok (.iload_n 2, 1) := by decide +kernel
theorem dX0_setComing_18 : decode cX0_setComing 18 = .ok (.iadd, 1) := by decide +kernel
theorem dX0_setComing_19 : decode cX0_setComing 19 = .ok (.iload_n 3, 1) := by decide +kernel
theorem dX0_setComing_20 : decode cX0_setComing 20 = .ok (.iastore, 1) := by decide +kernel
theorem dX0_setComing_21 : decode cX0_setComing 21 = .ok (.return_, 1) := by decide +kernel
def F0_setComing (h : Nat) (p1 : Int32) (p2 : Int32) (p3 : Int32) (st : fkS) : Option (Unit × fkS) :=
fk_bind (F0_comingBy h p1 p2 st) <| fun x1 st2 =>
if x1 = (-1 : Int32) then
(some ((), st2))
else
(fk_chk (fk_in ((p1 * (5 : Int32)) + p2) 40) <| fk_let (sA st2 (h + 12) ((p1 * (5 : Int32)) + p2).toNatClampNeg p3) <| fun st3 =>
some ((), st3))
set_option maxHeartbeats 1000000 in
set_option maxRecDepth 20000 in
theorem C0_setComing (h : Nat) (hh : kdC h = 0) (p1 : Int32) (p2 : Int32) (p3 : Int32) (st : fkS) {g : fkG} (l : Launch) (o : Unit × fkS) (hF : F0_setComing h p1 p2 p3 st = some o) : fk_C wC yX0_setComing cX0_setComing 4 none 1 22 l g [fk_r g h, .int p1, .int p2, .int p3] st (fk_eU o.1) o.2 := by
  refine fk_begin rfl (Nat.le_of_ble_eq_true rfl) (fun k hk => ?_) o hF
  have hk : fk_ok wC g k RX0 cX0_setComing 4 none 1 22 := hk
  show fk_J wC g fk_eU k 0 [(0, fk_r g h), (1, .int p1), (2, .int p2), (3, .int p3)] [] st (F0_setComing h p1 p2 p3 st)
  unfold F0_setComing
  refine j_aload_n (pc := 0) hk 0 rfl ⟨_, rfl⟩ dX0_setComing_0 ?_
  refine j_iload_n (pc := 1) hk 1 rfl dX0_setComing_1 ?_
  refine j_iload_n (pc := 2) hk 2 rfl dX0_setComing_2 ?_
  refine j_callVi (pc := 3) hk [.int p1, .int p2] [] rfl (fun l o hq9 => C0_comingBy h (hh) p1 p2 st l o hq9) (rcv_0 (hh)) yv_X0_comingBy ml_0_52 rfl (Nat.le_of_ble_eq_true rfl) (Nat.le_of_ble_eq_true rfl) (Nat.le_of_ble_eq_true rfl) dX0_setComing_3 (fun x1 st2 => ?_)
  refine j_iconst (pc := 6) hk dX0_setComing_6 (v := -1) (by decide) ?_
  refine j_icmp_eq (tgt := 21) (pc := 7) hk (by decide) dX0_setComing_7 (fun _ => ?_) (fun _ => ?_)
  · exact j_vret (pc := 21) hk dX0_setComing_21
  · refine j_aload_n (pc := 10) hk 0 rfl ⟨_, rfl⟩ dX0_setComing_10 ?_
    refine f_0_25 (pc := 11) hk (hh) dX0_setComing_11 ?_
    refine j_iload_n (pc := 14) hk 1 rfl dX0_setComing_14 ?_
    refine j_iconst (pc := 15) hk dX0_setComing_15 (v := 5) (by decide) ?_
    refine j_imul (pc := 16) hk dX0_setComing_16 ?_
    refine j_iload_n (pc := 17) hk 2 rfl dX0_setComing_17 ?_
    refine j_iadd (pc := 18) hk dX0_setComing_18 ?_
    refine j_iload_n (pc := 19) hk 3 rfl dX0_setComing_19 ?_
    refine a_istore (pc := 20) hk (isI_0_4 (hh)) dX0_setComing_20 (fun st3 => ?_)
    exact j_vret (pc := 21) hk dX0_setComing_21
theorem dX0_endOf_0 : decode cX0_endOf 0 = .ok (.iload_n 2, 1) := by decide +kernel
theorem dX0_endOf_1 : decode cX0_endOf 1 = .ok (.istore_n 3, 1) := by decide +kernel
theorem dX0_endOf_2 : decode cX0_endOf 2 = .ok (.iconst 0, 1) := by decide +kernel
theorem dX0_endOf_3 : decode cX0_endOf 3 = .ok (.istore 4, 2) := by decide +kernel
theorem dX0_endOf_5 : decode cX0_endOf 5 = .ok (.iload 4, 2) := by decide +kernel
theorem dX0_endOf_7 : decode cX0_endOf 7 = .ok (.aload_n 1, 1) := by decide +kernel
theorem dX0_endOf_8 : decode cX0_endOf 8 = .ok (.getfield 56, 3) := by decide +kernel
theorem dX0_endOf_11 : decode cX0_endOf 11 = .ok (.if_icmp .ge 34, 3) := by decide +kernel
theorem dX0_endOf_14 : decode cX0_endOf 14 = .ok (.iload 4, 2) := by decide +kernel
theorem dX0_endOf_16 : decode cX0_endOf 16 = .ok (.aload_n 1, 1) := by decide +kernel
theorem dX0_endOf_17 : decode cX0_endOf 17 = .ok (.getfield 61, 3) := by decide +kernel
theorem dX0_endOf_20 : decode cX0_endOf 20 = .ok (.arraylength, 1) := by decide +kernel
theorem dX0_endOf_21 : decode cX0_endOf 21 = .ok (.if_icmp .ge 24, 3) := by decide +kernel
theorem dX0_endOf_24 : decode cX0_endOf 24 = .ok (.aload_n 0, 1) := by decide +kernel
theorem dX0_endOf_25 : decode cX0_endOf 25 = .ok (.iload_n 3, 1) := by decide +kernel
theorem dX0_endOf_26 : decode cX0_endOf 26 = .ok (.aload_n 1, 1) := by decide +kernel
theorem dX0_endOf_27 : decode cX0_endOf 27 = .ok (.getfield 61, 3) := by decide +kernel
theorem dX0_endOf_30 : decode cX0_endOf 30 = .ok (.iload 4, 2) := by decide +kernel
theorem dX0_endOf_32 : decode cX0_endOf 32 = .ok (.iaload, 1) := by decide +kernel
theorem dX0_endOf_33 : decode cX0_endOf 33 = .ok (.iconst 5, 1) := by decide +kernel
theorem dX0_endOf_34 : decode cX0_endOf 34 = .ok (.irem, 1) := by decide +kernel
theorem dX0_endOf_35 : decode cX0_endOf 35 = .ok (.invokevirtual 52, 3) := by decide +kernel
theorem dX0_endOf_38 : decode cX0_endOf 38 = .ok (.istore_n 3, 1) := by decide +kernel
theorem dX0_endOf_39 : decode cX0_endOf 39 = .ok (.iinc 4 1, 3) := by decide +kernel
theorem dX0_endOf_42 : decode cX0_endOf 42 = .ok (.goto (-37), 3) := by decide +kernel
theorem dX0_endOf_45 : decode cX0_endOf 45 = .ok (.iload_n 3, 1) := by decide +kernel
theorem dX0_endOf_46 : decode cX0_endOf 46 = .ok (.ireturn, 1) := by decide +kernel
def B0_endOf_5 (h : Nat) (o1 : Nat) (k5 : Int32 → Int32 → fkS → Option (Int32 × fkS)) (v3 : Int32) (v4 : Int32) (st : fkS) : Option (Int32 × fkS) :=
fk_let (gI st 124 o1) <| fun x1 =>
if x1 ≤ v4 then
(some (v3, st))
else
(if (16 : Int32) ≤ v4 then
(some (v3, st))
else
(fk_chk (fk_in v4 16) <| fk_let (gA st (o1 + 2) v4.toNatClampNeg) <| fun x2 =>
fk_bind (F0_comingBy h v3 (fk_rem x2 (5 : Int32)) st) <| fun x3 st4 =>
k5 x3 (v4 + (1 : Int32)) st4))
set_option maxHeartbeats 1000000 in
set_option maxRecDepth 20000 in
theorem T0_endOf_5 {g : fkG} {k : fkK} (h : Nat) (o1 : Nat) (hh : kdC h = 0) (ho1 : kdC o1 = 6) (hk : fk_ok wC g k RX0 cX0_endOf 5 (some (.int)) 1 22) (k5 : Int32 → Int32 → fkS → Option (Int32 × fkS)) (H5 : ∀ (v3 : Int32) (v4 : Int32) (st : fkS), fk_J wC g fk_eI k 5 [(0, fk_r g h), (1, fk_r g o1), (3, .int v3), (4, .int v4)] [] st (k5 v3 v4 st)) : ∀ (v3 : Int32) (v4 : Int32) (st : fkS), fk_J wC g fk_eI k 5 [(0, fk_r g h), (1, fk_r g o1), (3, .int v3), (4, .int v4)] [] st (B0_endOf_5 h o1 k5 v3 v4 st) := by
  intro v3 v4 st
  unfold B0_endOf_5
  refine j_iload (pc := 5) hk 3 rfl dX0_endOf_5 ?_
  refine j_aload_n (pc := 7) hk 1 rfl ⟨_, rfl⟩ dX0_endOf_7 ?_
  refine f_0_56 (pc := 8) hk (ho1) dX0_endOf_8 (fun x1 => ?_)
  refine j_icmp_ge (tgt := 45) (pc := 11) hk (by decide) dX0_endOf_11 (fun _ => ?_) (fun _ => ?_)
  · refine j_iload_n (pc := 45) hk 2 rfl dX0_endOf_45 ?_
    exact j_iret (pc := 46) hk dX0_endOf_46
  · refine j_iload (pc := 14) hk 3 rfl dX0_endOf_14 ?_
    refine j_aload_n (pc := 16) hk 1 rfl ⟨_, rfl⟩ dX0_endOf_16 ?_
    refine f_0_61 (pc := 17) hk (ho1) dX0_endOf_17 ?_
    refine a_ilen (pc := 20) hk (isI_6_5 (ho1)) (v := 16) (by decide) dX0_endOf_20 ?_
    refine j_icmp_ge (tgt := 45) (pc := 21) hk (by decide) dX0_endOf_21 (fun _ => ?_) (fun _ => ?_)
    · refine j_iload_n (pc := 45) hk 2 rfl dX0_endOf_45 ?_
      exact j_iret (pc := 46) hk dX0_endOf_46
    · refine j_aload_n (pc := 24) hk 0 rfl ⟨_, rfl⟩ dX0_endOf_24 ?_
      refine j_iload_n (pc := 25) hk 2 rfl dX0_endOf_25 ?_
      refine j_aload_n (pc := 26) hk 1 rfl ⟨_, rfl⟩ dX0_endOf_26 ?_
      refine f_0_61 (pc := 27) hk (ho1) dX0_endOf_27 ?_
      refine j_iload (pc := 30) hk 3 rfl dX0_endOf_30 ?_
      refine a_iload (pc := 32) hk (isI_6_5 (ho1)) dX0_endOf_32 (fun x2 => ?_)
      refine j_iconst (pc := 33) hk dX0_endOf_33 (v := 5) (by decide) ?_
      refine j_irem (pc := 34) hk (show fk_nz (5 : Int32) = true from by decide) dX0_endOf_34 ?_
      refine j_callVi (pc := 35) hk [.int v3, .int (fk_rem x2 (5 : Int32))] [] rfl (fun l o hq9 => C0_comingBy h (hh) v3 (fk_rem x2 (5 : Int32)) st l o hq9) (rcv_0 (hh)) yv_X0_comingBy ml_0_52 rfl (Nat.le_of_ble_eq_true rfl) (Nat.le_of_ble_eq_true rfl) (Nat.le_of_ble_eq_true rfl) dX0_endOf_35 (fun x3 st4 => ?_)
      refine j_istore_n (lv' := ((3, .int x3) :: [(0, fk_r g h), (1, fk_r g o1), (4, .int v4)])) (pc := 38) hk rfl (by decide) rfl dX0_endOf_38 ?_
      refine j_sub hk (lv' := [(0, fk_r g h), (1, fk_r g o1), (3, .int x3), (4, .int v4)]) [1, 2, 0, 3] rfl ?_
      refine j_iinc (dd := (1 : Int32)) (lv' := ((4, .int (v4 + (1 : Int32))) :: [(0, fk_r g h), (1, fk_r g o1), (3, .int x3)])) (pc := 39) hk 3 rfl (by decide) (by decide) rfl dX0_endOf_39 ?_
      refine j_sub hk (lv' := [(0, fk_r g h), (1, fk_r g o1), (3, .int x3), (4, .int (v4 + (1 : Int32)))]) [1, 2, 3, 0] rfl ?_
      refine j_goto (tgt := 5) (pc := 42) hk (by decide) dX0_endOf_42 ?_
      exact j_sub hk [0, 1, 2, 3] rfl (H5 x3 (v4 + (1 : Int32)) st4)
set_option maxHeartbeats 1000000 in
set_option maxRecDepth 20000 in
theorem L0_endOf_5 {g : fkG} {k : fkK} (h : Nat) (o1 : Nat) (hh : kdC h = 0) (ho1 : kdC o1 = 6) (hk : fk_ok wC g k RX0 cX0_endOf 5 (some (.int)) 1 22) (fu : Nat) : ∀ (v3 : Int32) (v4 : Int32) (st : fkS), fk_J wC g fk_eI k 5 [(0, fk_r g h), (1, fk_r g o1), (3, .int v3), (4, .int v4)] [] st (fk_lp2 (B0_endOf_5 h o1) fu v3 v4 st) := by
  induction fu with
  | zero =>
    intro v3 v4 st
    exact j_none hk
  | succ fu ih =>
    exact T0_endOf_5 h o1 hh ho1 hk _ ih
def F0_endOf (h : Nat) (o1 : Nat) (p2 : Int32) (st : fkS) : Option (Int32 × fkS) :=
fk_lp2 (B0_endOf_5 h o1) fk_fuel p2 (0 : Int32) st
set_option maxHeartbeats 1000000 in
set_option maxRecDepth 20000 in
theorem C0_endOf (h : Nat) (o1 : Nat) (hh : kdC h = 0) (ho1 : kdC o1 = 6) (p2 : Int32) (st : fkS) {g : fkG} (l : Launch) (o : Int32 × fkS) (hF : F0_endOf h o1 p2 st = some o) : fk_C wC yX0_endOf cX0_endOf 5 (some (.int)) 1 22 l g [fk_r g h, fk_r g o1, .int p2] st (fk_eI o.1) o.2 := by
  refine fk_begin rfl (Nat.le_of_ble_eq_true rfl) (fun k hk => ?_) o hF
  have hk : fk_ok wC g k RX0 cX0_endOf 5 (some (.int)) 1 22 := hk
  show fk_J wC g fk_eI k 0 [(0, fk_r g h), (1, fk_r g o1), (2, .int p2)] [] st (F0_endOf h o1 p2 st)
  unfold F0_endOf
  refine j_iload_n (pc := 0) hk 2 rfl dX0_endOf_0 ?_
  refine j_istore_n (lv' := ((3, .int p2) :: [(0, fk_r g h), (1, fk_r g o1), (2, .int p2)])) (pc := 1) hk rfl (by decide) rfl dX0_endOf_1 ?_
  refine j_sub hk (lv' := [(0, fk_r g h), (1, fk_r g o1), (2, .int p2), (3, .int p2)]) [1, 2, 3, 0] rfl ?_
  refine j_iconst (pc := 2) hk dX0_endOf_2 (v := 0) (by decide) ?_
  refine j_istore (lv' := ((4, .int (0 : Int32)) :: [(0, fk_r g h), (1, fk_r g o1), (2, .int p2), (3, .int p2)])) (pc := 3) hk (by decide) rfl dX0_endOf_3 ?_
  refine j_sub hk (lv' := [(0, fk_r g h), (1, fk_r g o1), (2, .int p2), (3, .int p2), (4, .int (0 : Int32))]) [1, 2, 3, 4, 0] rfl ?_
  exact j_sub hk [0, 1, 3, 4] rfl (L0_endOf_5 h o1 hh ho1 hk fk_fuel p2 (0 : Int32) st)
theorem dX0_illsOf_0 : decode cX0_illsOf 0 = .ok (.aload_n 0, 1) := by decide +kernel
theorem dX0_illsOf_1 : decode cX0_illsOf 1 = .ok (.getfield 31, 3) := by decide +kernel
theorem dX0_illsOf_4 : decode cX0_illsOf 4 = .ok (.istore_n 2, 1) := by decide +kernel
theorem dX0_illsOf_5 : decode cX0_illsOf 5 = .ok (.iconst 0, 1) := by decide +kernel
theorem dX0_illsOf_6 : decode cX0_illsOf 6 = .ok (.istore_n 3, 1) := by decide +kernel
theorem dX0_illsOf_7 : decode cX0_illsOf 7 = .ok (.iconst 0, 1) := by decide +kernel
theorem dX0_illsOf_8 : decode cX0_illsOf 8 = .ok (.istore 4, 2) := by decide +kernel
theorem dX0_illsOf_10 : decode cX0_illsOf 10 = .ok (.iload 4, 2) := by decide +kernel
theorem dX0_illsOf_12 : decode cX0_illsOf 12 = .ok (.aload_n 1, 1) := by decide +kernel
theorem dX0_illsOf_13 : decode cX0_illsOf 13 = .ok (.getfield 56, 3) := by decide +kernel
theorem dX0_illsOf_16 : decode cX0_illsOf 16 = .ok (.if_icmp .ge 45, 3) := by decide +kernel
theorem dX0_illsOf_19 : decode cX0_illsOf 19 = .ok (.iload 4, 2) := by decide +kernel
theorem dX0_illsOf_21 : decode cX0_illsOf 21 = .ok (.aload_n 1, 1) := by decide +kernel
theorem dX0_illsOf_22 : decode cX0_illsOf 22 = .ok (.getfield 61, 3) := by decide +kernel
theorem dX0_illsOf_25 : decode cX0_illsOf 25 = .ok (.arraylength, 1) := by decide +kernel
theorem dX0_illsOf_26 : decode cX0_illsOf 26 = .ok (.if_icmp .ge 35, 3) := by decide +kernel
theorem dX0_illsOf_29 : decode cX0_illsOf 29 = .ok (.aload_n 0, 1) := by decide +kernel
theorem dX0_illsOf_30 : decode cX0_illsOf 30 = .ok (.iload_n 2, 1) := by decide +kernel
theorem dX0_illsOf_31 : decode cX0_illsOf 31 = .ok (.aload_n 1, 1) := by decide +kernel
theorem dX0_illsOf_32 : decode cX0_illsOf 32 = .ok (.getfield 61, 3) := by decide +kernel
theorem dX0_illsOf_35 : decode cX0_illsOf 35 = .ok (.iload 4, 2) := by decide +kernel
theorem dX0_illsOf_37 : decode cX0_illsOf 37 = .ok (.iaload, 1) := by decide +kernel
theorem dX0_illsOf_38 : decode cX0_illsOf 38 = .ok (.iconst 5, 1) := by decide +kernel
theorem dX0_illsOf_39 : decode cX0_illsOf 39 = .ok (.irem, 1) := by decide +kernel
theorem dX0_illsOf_40 : decode cX0_illsOf 40 = .ok (.invokevirtual 52, 3) := by decide +kernel
theorem dX0_illsOf_43 : decode cX0_illsOf 43 = .ok (.istore_n 2, 1) := by decide +kernel
theorem dX0_illsOf_44 : decode cX0_illsOf 44 = .ok (.iload_n 3, 1) := by decide +kernel
theorem dX0_illsOf_45 : decode cX0_illsOf 45 = .ok (.aload_n 0, 1) := by decide +kernel
theorem dX0_illsOf_46 : decode cX0_illsOf 46 = .ok (.getfield 34, 3) := by decide +kernel
theorem dX0_illsOf_49 : decode cX0_illsOf 49 = .ok (.iload_n 2, 1) := by decide +kernel
theorem dX0_illsOf_50 : decode cX0_illsOf 50 = .ok (.ishr, 1) := by decide +kernel
theorem dX0_illsOf_51 : decode cX0_illsOf 51 = .ok (.iconst 1, 1) := by decide +kernel
theorem dX0_illsOf_52 : decode cX0_illsOf 52 = .ok (.iand, 1) := by decide +kernel
theorem dX0_illsOf_53 : decode cX0_illsOf 53 = .ok (.iadd, 1) := by decide +kernel
theorem dX0_illsOf_54 : decode cX0_illsOf 54 = .ok (.istore_n 3, 1) := by decide +kernel
theorem dX0_illsOf_55 : decode cX0_illsOf 55 = .ok (.iinc 4 1, 3) := by decide +kernel
theorem dX0_illsOf_58 : decode cX0_illsOf 58 = .ok (.goto (-48), 3) := by decide +kernel
theorem dX0_illsOf_61 : decode cX0_illsOf 61 = .ok (.iload_n 3, 1) := by decide +kernel
theorem dX0_illsOf_62 : decode cX0_illsOf 62 = .ok (.ireturn, 1) := by decide +kernel
def B0_illsOf_10 (h : Nat) (o1 : Nat) (k10 : Int32 → Int32 → Int32 → fkS → Option (Int32 × fkS)) (v2 : Int32) (v3 : Int32) (v4 : Int32) (st : fkS) : Option (Int32 × fkS) :=
fk_let (gI st 124 o1) <| fun x2 =>
if x2 ≤ v4 then
(some (v3, st))
else
(if (16 : Int32) ≤ v4 then
(some (v3, st))
else
(fk_chk (fk_in v4 16) <| fk_let (gA st (o1 + 2) v4.toNatClampNeg) <| fun x3 =>
fk_bind (F0_comingBy h v2 (fk_rem x3 (5 : Int32)) st) <| fun x4 st5 =>
fk_let (gI st5 7 h) <| fun x6 =>
k10 x4 (v3 + ((x6 >>> (x4 &&& 31)) &&& (1 : Int32))) (v4 + (1 : Int32)) st5))
set_option maxHeartbeats 1000000 in
set_option maxRecDepth 20000 in
theorem T0_illsOf_10 {g : fkG} {k : fkK} (h : Nat) (o1 : Nat) (hh : kdC h = 0) (ho1 : kdC o1 = 6) (hk : fk_ok wC g k RX0 cX0_illsOf 5 (some (.int)) 1 22) (k10 : Int32 → Int32 → Int32 → fkS → Option (Int32 × fkS)) (H10 : ∀ (v2 : Int32) (v3 : Int32) (v4 : Int32) (st : fkS), fk_J wC g fk_eI k 10 [(0, fk_r g h), (1, fk_r g o1), (2, .int v2), (3, .int v3), (4, .int v4)] [] st (k10 v2 v3 v4 st)) : ∀ (v2 : Int32) (v3 : Int32) (v4 : Int32) (st : fkS), fk_J wC g fk_eI k 10 [(0, fk_r g h), (1, fk_r g o1), (2, .int v2), (3, .int v3), (4, .int v4)] [] st (B0_illsOf_10 h o1 k10 v2 v3 v4 st) := by
  intro v2 v3 v4 st
  unfold B0_illsOf_10
  refine j_iload (pc := 10) hk 4 rfl dX0_illsOf_10 ?_
  refine j_aload_n (pc := 12) hk 1 rfl ⟨_, rfl⟩ dX0_illsOf_12 ?_
  refine f_0_56 (pc := 13) hk (ho1) dX0_illsOf_13 (fun x2 => ?_)
  refine j_icmp_ge (tgt := 61) (pc := 16) hk (by decide) dX0_illsOf_16 (fun _ => ?_) (fun _ => ?_)
  · refine j_iload_n (pc := 61) hk 3 rfl dX0_illsOf_61 ?_
    exact j_iret (pc := 62) hk dX0_illsOf_62
  · refine j_iload (pc := 19) hk 4 rfl dX0_illsOf_19 ?_
    refine j_aload_n (pc := 21) hk 1 rfl ⟨_, rfl⟩ dX0_illsOf_21 ?_
    refine f_0_61 (pc := 22) hk (ho1) dX0_illsOf_22 ?_
    refine a_ilen (pc := 25) hk (isI_6_5 (ho1)) (v := 16) (by decide) dX0_illsOf_25 ?_
    refine j_icmp_ge (tgt := 61) (pc := 26) hk (by decide) dX0_illsOf_26 (fun _ => ?_) (fun _ => ?_)
    · refine j_iload_n (pc := 61) hk 3 rfl dX0_illsOf_61 ?_
      exact j_iret (pc := 62) hk dX0_illsOf_62
    · refine j_aload_n (pc := 29) hk 0 rfl ⟨_, rfl⟩ dX0_illsOf_29 ?_
      refine j_iload_n (pc := 30) hk 2 rfl dX0_illsOf_30 ?_
      refine j_aload_n (pc := 31) hk 1 rfl ⟨_, rfl⟩ dX0_illsOf_31 ?_
      refine f_0_61 (pc := 32) hk (ho1) dX0_illsOf_32 ?_
      refine j_iload (pc := 35) hk 4 rfl dX0_illsOf_35 ?_
      refine a_iload (pc := 37) hk (isI_6_5 (ho1)) dX0_illsOf_37 (fun x3 => ?_)
      refine j_iconst (pc := 38) hk dX0_illsOf_38 (v := 5) (by decide) ?_
      refine j_irem (pc := 39) hk (show fk_nz (5 : Int32) = true from by decide) dX0_illsOf_39 ?_
      refine j_callVi (pc := 40) hk [.int v2, .int (fk_rem x3 (5 : Int32))] [] rfl (fun l o hq9 => C0_comingBy h (hh) v2 (fk_rem x3 (5 : Int32)) st l o hq9) (rcv_0 (hh)) yv_X0_comingBy ml_0_52 rfl (Nat.le_of_ble_eq_true rfl) (Nat.le_of_ble_eq_true rfl) (Nat.le_of_ble_eq_true rfl) dX0_illsOf_40 (fun x4 st5 => ?_)
      refine j_istore_n (lv' := ((2, .int x4) :: [(0, fk_r g h), (1, fk_r g o1), (3, .int v3), (4, .int v4)])) (pc := 43) hk rfl (by decide) rfl dX0_illsOf_43 ?_
      refine j_sub hk (lv' := [(0, fk_r g h), (1, fk_r g o1), (2, .int x4), (3, .int v3), (4, .int v4)]) [1, 2, 0, 3, 4] rfl ?_
      refine j_iload_n (pc := 44) hk 3 rfl dX0_illsOf_44 ?_
      refine j_aload_n (pc := 45) hk 0 rfl ⟨_, rfl⟩ dX0_illsOf_45 ?_
      refine f_0_34 (pc := 46) hk (hh) dX0_illsOf_46 (fun x6 => ?_)
      refine j_iload_n (pc := 49) hk 2 rfl dX0_illsOf_49 ?_
      refine j_ishr (pc := 50) hk dX0_illsOf_50 ?_
      refine j_iconst (pc := 51) hk dX0_illsOf_51 (v := 1) (by decide) ?_
      refine j_iand (pc := 52) hk dX0_illsOf_52 ?_
      refine j_iadd (pc := 53) hk dX0_illsOf_53 ?_
      refine j_istore_n (lv' := ((3, .int (v3 + ((x6 >>> (x4 &&& 31)) &&& (1 : Int32)))) :: [(0, fk_r g h), (1, fk_r g o1), (2, .int x4), (4, .int v4)])) (pc := 54) hk rfl (by decide) rfl dX0_illsOf_54 ?_
      refine j_sub hk (lv' := [(0, fk_r g h), (1, fk_r g o1), (2, .int x4), (3, .int (v3 + ((x6 >>> (x4 &&& 31)) &&& (1 : Int32)))), (4, .int v4)]) [1, 2, 3, 0, 4] rfl ?_
      refine j_iinc (dd := (1 : Int32)) (lv' := ((4, .int (v4 + (1 : Int32))) :: [(0, fk_r g h), (1, fk_r g o1), (2, .int x4), (3, .int (v3 + ((x6 >>> (x4 &&& 31)) &&& (1 : Int32))))])) (pc := 55) hk 4 rfl (by decide) (by decide) rfl dX0_illsOf_55 ?_
      refine j_sub hk (lv' := [(0, fk_r g h), (1, fk_r g o1), (2, .int x4), (3, .int (v3 + ((x6 >>> (x4 &&& 31)) &&& (1 : Int32)))), (4, .int (v4 + (1 : Int32)))]) [1, 2, 3, 4, 0] rfl ?_
      refine j_goto (tgt := 10) (pc := 58) hk (by decide) dX0_illsOf_58 ?_
      exact j_sub hk [0, 1, 2, 3, 4] rfl (H10 x4 (v3 + ((x6 >>> (x4 &&& 31)) &&& (1 : Int32))) (v4 + (1 : Int32)) st5)
set_option maxHeartbeats 1000000 in
set_option maxRecDepth 20000 in
theorem L0_illsOf_10 {g : fkG} {k : fkK} (h : Nat) (o1 : Nat) (hh : kdC h = 0) (ho1 : kdC o1 = 6) (hk : fk_ok wC g k RX0 cX0_illsOf 5 (some (.int)) 1 22) (fu : Nat) : ∀ (v2 : Int32) (v3 : Int32) (v4 : Int32) (st : fkS), fk_J wC g fk_eI k 10 [(0, fk_r g h), (1, fk_r g o1), (2, .int v2), (3, .int v3), (4, .int v4)] [] st (fk_lp3 (B0_illsOf_10 h o1) fu v2 v3 v4 st) := by
  induction fu with
  | zero =>
    intro v2 v3 v4 st
    exact j_none hk
  | succ fu ih =>
    exact T0_illsOf_10 h o1 hh ho1 hk _ ih
def F0_illsOf (h : Nat) (o1 : Nat) (st : fkS) : Option (Int32 × fkS) :=
fk_let (gI st 6 h) <| fun x1 =>
fk_lp3 (B0_illsOf_10 h o1) fk_fuel x1 (0 : Int32) (0 : Int32) st
set_option maxHeartbeats 1000000 in
set_option maxRecDepth 20000 in
theorem C0_illsOf (h : Nat) (o1 : Nat) (hh : kdC h = 0) (ho1 : kdC o1 = 6) (st : fkS) {g : fkG} (l : Launch) (o : Int32 × fkS) (hF : F0_illsOf h o1 st = some o) : fk_C wC yX0_illsOf cX0_illsOf 5 (some (.int)) 1 22 l g [fk_r g h, fk_r g o1] st (fk_eI o.1) o.2 := by
  refine fk_begin rfl (Nat.le_of_ble_eq_true rfl) (fun k hk => ?_) o hF
  have hk : fk_ok wC g k RX0 cX0_illsOf 5 (some (.int)) 1 22 := hk
  show fk_J wC g fk_eI k 0 [(0, fk_r g h), (1, fk_r g o1)] [] st (F0_illsOf h o1 st)
  unfold F0_illsOf
  refine j_aload_n (pc := 0) hk 0 rfl ⟨_, rfl⟩ dX0_illsOf_0 ?_
  refine f_0_31 (pc := 1) hk (hh) dX0_illsOf_1 (fun x1 => ?_)
  refine j_istore_n (lv' := ((2, .int x1) :: [(0, fk_r g h), (1, fk_r g o1)])) (pc := 4) hk rfl (by decide) rfl dX0_illsOf_4 ?_
  refine j_sub hk (lv' := [(0, fk_r g h), (1, fk_r g o1), (2, .int x1)]) [1, 2, 0] rfl ?_
  refine j_iconst (pc := 5) hk dX0_illsOf_5 (v := 0) (by decide) ?_
  refine j_istore_n (lv' := ((3, .int (0 : Int32)) :: [(0, fk_r g h), (1, fk_r g o1), (2, .int x1)])) (pc := 6) hk rfl (by decide) rfl dX0_illsOf_6 ?_
  refine j_sub hk (lv' := [(0, fk_r g h), (1, fk_r g o1), (2, .int x1), (3, .int (0 : Int32))]) [1, 2, 3, 0] rfl ?_
  refine j_iconst (pc := 7) hk dX0_illsOf_7 (v := 0) (by decide) ?_
  refine j_istore (lv' := ((4, .int (0 : Int32)) :: [(0, fk_r g h), (1, fk_r g o1), (2, .int x1), (3, .int (0 : Int32))])) (pc := 8) hk (by decide) rfl dX0_illsOf_8 ?_
  refine j_sub hk (lv' := [(0, fk_r g h), (1, fk_r g o1), (2, .int x1), (3, .int (0 : Int32)), (4, .int (0 : Int32))]) [1, 2, 3, 4, 0] rfl ?_
  exact j_sub hk [0, 1, 2, 3, 4] rfl (L0_illsOf_10 h o1 hh ho1 hk fk_fuel x1 (0 : Int32) (0 : Int32) st)
theorem dX0_draw_0 : decode cX0_draw 0 = .ok (.aload_n 0, 1) := by decide +kernel
theorem dX0_draw_1 : decode cX0_draw 1 = .ok (.aload_n 0, 1) := by decide +kernel
theorem dX0_draw_2 : decode cX0_draw 2 = .ok (.getfield 43, 3) := by decide +kernel
theorem dX0_draw_5 : decode cX0_draw 5 = .ok (.ldc 64, 2) := by decide +kernel
theorem dX0_draw_7 : decode cX0_draw 7 = .ok (.imul, 1) := by decide +kernel
theorem dX0_draw_8 : decode cX0_draw 8 = .ok (.sipush 12345, 3) := by decide +kernel
theorem dX0_draw_11 : decode cX0_draw 11 = .ok (.iadd, 1) := by decide +kernel
theorem dX0_draw_12 : decode cX0_draw 12 = .ok (.putfield 43, 3) := by decide +kernel
theorem dX0_draw_15 : decode cX0_draw 15 = .ok (.iload_n 1, 1) := by decide +kernel
theorem dX0_draw_16 : decode cX0_draw 16 = .ok (.ifCond .gt 7, 3) := by decide +kernel
theorem dX0_draw_19 : decode cX0_draw 19 = .ok (.iconst 0, 1) := by decide +kernel
theorem dX0_draw_20 : decode cX0_draw 20 = .ok (.goto 12, 3) := by decide +kernel
theorem dX0_draw_23 : decode cX0_draw 23 = .ok (.aload_n 0, 1) := by decide +kernel
theorem dX0_draw_24 : decode cX0_draw 24 = .ok (.getfield 43, 3) := by decide +kernel
theorem dX0_draw_27 : decode cX0_draw 27 = .ok (.bipush 16, 2) := by decide +kernel
theorem dX0_draw_29 : decode cX0_draw 29 = .ok (.iushr, 1) := by decide +kernel
theorem dX0_draw_30 : decode cX0_draw 30 = .ok (.iload_n 1, 1) := by decide +kernel
theorem dX0_draw_31 : decode cX0_draw 31 = .ok (.irem, 1) := by decide +kernel
theorem dX0_draw_32 : decode cX0_draw 32 = .ok (.ireturn, 1) := by decide +kernel
def F0_draw (h : Nat) (p1 : Int32) (st : fkS) : Option (Int32 × fkS) :=
fk_let (gI st 10 h) <| fun x1 =>
fk_let (sI st 10 h ((x1 * (1103515245 : Int32)) + (12345 : Int32))) <| fun st2 =>
if 0 < p1 then
(fk_let (gI st2 10 h) <| fun x3 =>
fk_chk (fk_nz p1) <|
some ((fk_rem (fk_ushr x3 (16 : Int32)) p1), st2))
else
(some ((0 : Int32), st2))
set_option maxHeartbeats 1000000 in
set_option maxRecDepth 20000 in
theorem C0_draw (h : Nat) (hh : kdC h = 0) (p1 : Int32) (st : fkS) {g : fkG} (l : Launch) (o : Int32 × fkS) (hF : F0_draw h p1 st = some o) : fk_C wC yX0_draw cX0_draw 2 (some (.int)) 0 0 l g [fk_r g h, .int p1] st (fk_eI o.1) o.2 := by
  refine fk_begin rfl (Nat.le_of_ble_eq_true rfl) (fun k hk => ?_) o hF
  have hk : fk_ok wC g k RX0 cX0_draw 2 (some (.int)) 0 0 := hk
  show fk_J wC g fk_eI k 0 [(0, fk_r g h), (1, .int p1)] [] st (F0_draw h p1 st)
  unfold F0_draw
  refine j_aload_n (pc := 0) hk 0 rfl ⟨_, rfl⟩ dX0_draw_0 ?_
  refine j_aload_n (pc := 1) hk 0 rfl ⟨_, rfl⟩ dX0_draw_1 ?_
  refine f_0_43 (pc := 2) hk (hh) dX0_draw_2 (fun x1 => ?_)
  refine j_ldc (pc := 5) hk dX0_draw_5 wk_0_64 ?_
  refine j_imul (pc := 7) hk dX0_draw_7 ?_
  refine j_sipush (pc := 8) hk dX0_draw_8 (v := 12345) (by decide) ?_
  refine j_iadd (pc := 11) hk dX0_draw_11 ?_
  refine p_0_43 (pc := 12) hk (hh) dX0_draw_12 (fun st2 => ?_)
  refine j_iload_n (pc := 15) hk 1 rfl dX0_draw_15 ?_
  refine j_if_gt (tgt := 23) (pc := 16) hk (by decide) dX0_draw_16 (fun _ => ?_) (fun _ => ?_)
  · refine j_aload_n (pc := 23) hk 0 rfl ⟨_, rfl⟩ dX0_draw_23 ?_
    refine f_0_43 (pc := 24) hk (hh) dX0_draw_24 (fun x3 => ?_)
    refine j_bipush (pc := 27) hk dX0_draw_27 (v := 16) (by decide) ?_
    refine j_iushr (pc := 29) hk dX0_draw_29 ?_
    refine j_iload_n (pc := 30) hk 1 rfl dX0_draw_30 ?_
    refine j_chk (pc := 31) hk (fun hz4 => ?_)
    refine j_irem (pc := 31) hk hz4 dX0_draw_31 ?_
    exact j_iret (pc := 32) hk dX0_draw_32
  · refine j_iconst (pc := 19) hk dX0_draw_19 (v := 0) (by decide) ?_
    refine j_goto (tgt := 32) (pc := 20) hk (by decide) dX0_draw_20 ?_
    exact j_iret (pc := 32) hk dX0_draw_32
theorem dX1_forget_0 : decode cX1_forget 0 = .ok (.aload_n 0, 1) := by decide +kernel
theorem dX1_forget_1 : decode cX1_forget 1 = .ok (.iconst 0, 1) := by decide +kernel
theorem dX1_forget_2 : decode cX1_forget 2 = .ok (.putfield 15, 3) := by decide +kernel
theorem dX1_forget_5 : decode cX1_forget 5 = .ok (.return_, 1) := by decide +kernel
def F1_forget (st : fkS) : Option (Unit × fkS) :=
fk_let (sI st 21 36 (0 : Int32)) <| fun st1 =>
some ((), st1)
set_option maxHeartbeats 1000000 in
set_option maxRecDepth 20000 in
theorem C1_forget (st : fkS) {g : fkG} (l : Launch) (o : Unit × fkS) (hF : F1_forget st = some o) : fk_C wC yX1_forget cX1_forget 1 none 0 0 l g [fk_r g 36] st (fk_eU o.1) o.2 := by
  refine fk_begin rfl (Nat.le_of_ble_eq_true rfl) (fun k hk => ?_) o hF
  have hk : fk_ok wC g k RX1 cX1_forget 1 none 0 0 := hk
  show fk_J wC g fk_eU k 0 [(0, fk_r g 36)] [] st (F1_forget st)
  unfold F1_forget
  refine j_aload_n (pc := 0) hk 0 rfl ⟨_, rfl⟩ dX1_forget_0 ?_
  refine j_iconst (pc := 1) hk dX1_forget_1 (v := 0) (by decide) ?_
  refine p_1_15 (pc := 2) hk (rfl) dX1_forget_2 (fun st1 => ?_)
  exact j_vret (pc := 5) hk dX1_forget_5
theorem dX1_take_0 : decode cX1_take 0 = .ok (.aload_n 1, 1) := by decide +kernel
theorem dX1_take_1 : decode cX1_take 1 = .ok (.iload_n 2, 1) := by decide +kernel
theorem dX1_take_2 : decode cX1_take 2 = .ok (.invokevirtual 28, 3) := by decide +kernel
theorem dX1_take_5 : decode cX1_take 5 = .ok (.ifCond .eq 4, 3) := by decide +kernel
theorem dX1_take_8 : decode cX1_take 8 = .ok (.return_, 1) := by decide +kernel
theorem dX1_take_9 : decode cX1_take 9 = .ok (.aload_n 0, 1) := by decide +kernel
theorem dX1_take_10 : decode cX1_take 10 = .ok (.aload_n 1, 1) := by decide +kernel
theorem dX1_take_11 : decode cX1_take 11 = .ok (.getfield 34, 3) := by decide +kernel
theorem dX1_take_14 : decode cX1_take 14 = .ok (.iload_n 2, 1) := by decide +kernel
theorem dX1_take_15 : decode cX1_take 15 = .ok (.iaload, 1) := by decide +kernel
theorem dX1_take_16 : decode cX1_take 16 = .ok (.putfield 19, 3) := by decide +kernel
theorem dX1_take_19 : decode cX1_take 19 = .ok (.aload_n 0, 1) := by decide +kernel
theorem dX1_take_20 : decode cX1_take 20 = .ok (.iload_n 2, 1) := by decide +kernel
theorem dX1_take_21 : decode cX1_take 21 = .ok (.putfield 22, 3) := by decide +kernel
theorem dX1_take_24 : decode cX1_take 24 = .ok (.aload_n 0, 1) := by decide +kernel
theorem dX1_take_25 : decode cX1_take 25 = .ok (.aload_n 1, 1) := by decide +kernel
theorem dX1_take_26 : decode cX1_take 26 = .ok (.getfield 37, 3) := by decide +kernel
theorem dX1_take_29 : decode cX1_take 29 = .ok (.iload_n 2, 1) := by decide +kernel
theorem dX1_take_30 : decode cX1_take 30 = .ok (.iaload, 1) := by decide +kernel
theorem dX1_take_31 : decode cX1_take 31 = .ok (.putfield 25, 3) := by decide +kernel
theorem dX1_take_34 : decode cX1_take 34 = .ok (.return_, 1) := by decide +kernel
def F1_take (o1 : Nat) (p2 : Int32) (st : fkS) : Option (Unit × fkS) :=
fk_bind (F0_lacks o1 p2 st) <| fun x1 st2 =>
if x1 = 0 then
(fk_chk (fk_in p2 7) <| fk_let (gA st2 (o1 + 3) p2.toNatClampNeg) <| fun x3 =>
fk_let (sI st2 22 36 x3) <| fun st4 =>
fk_let (sI st4 23 36 p2) <| fun st5 =>
fk_chk (fk_in p2 7) <| fk_let (gA st5 (o1 + 6) p2.toNatClampNeg) <| fun x6 =>
fk_let (sI st5 24 36 x6) <| fun st7 =>
some ((), st7))
else
(some ((), st2))
set_option maxHeartbeats 1000000 in
set_option maxRecDepth 20000 in
theorem C1_take (o1 : Nat) (ho1 : kdC o1 = 0) (p2 : Int32) (st : fkS) {g : fkG} (l : Launch) (o : Unit × fkS) (hF : F1_take o1 p2 st = some o) : fk_C wC yX1_take cX1_take 3 none 1 21 l g [fk_r g 36, fk_r g o1, .int p2] st (fk_eU o.1) o.2 := by
  refine fk_begin rfl (Nat.le_of_ble_eq_true rfl) (fun k hk => ?_) o hF
  have hk : fk_ok wC g k RX1 cX1_take 3 none 1 21 := hk
  show fk_J wC g fk_eU k 0 [(0, fk_r g 36), (1, fk_r g o1), (2, .int p2)] [] st (F1_take o1 p2 st)
  unfold F1_take
  refine j_aload_n (pc := 0) hk 1 rfl ⟨_, rfl⟩ dX1_take_0 ?_
  refine j_iload_n (pc := 1) hk 2 rfl dX1_take_1 ?_
  refine j_callVNi (pc := 2) hk [.int p2] [] rfl (fun l o hq9 => C0_lacks o1 (ho1) p2 st l o hq9) (rcv_0 (ho1)) yv_X0_lacks ml_1_28 rfl (Nat.le_of_ble_eq_true rfl) (Nat.le_of_ble_eq_true rfl) (Nat.le_of_ble_eq_true rfl) dX1_take_2 (fun x1 st2 => ?_)
  refine j_if_eq (tgt := 9) (pc := 5) hk (by decide) dX1_take_5 (fun _ => ?_) (fun _ => ?_)
  · refine j_aload_n (pc := 9) hk 0 rfl ⟨_, rfl⟩ dX1_take_9 ?_
    refine j_aload_n (pc := 10) hk 1 rfl ⟨_, rfl⟩ dX1_take_10 ?_
    refine f_1_34 (pc := 11) hk (ho1) dX1_take_11 ?_
    refine j_iload_n (pc := 14) hk 2 rfl dX1_take_14 ?_
    refine a_iload (pc := 15) hk (isI_0_1 (ho1)) dX1_take_15 (fun x3 => ?_)
    refine p_1_19 (pc := 16) hk (rfl) dX1_take_16 (fun st4 => ?_)
    refine j_aload_n (pc := 19) hk 0 rfl ⟨_, rfl⟩ dX1_take_19 ?_
    refine j_iload_n (pc := 20) hk 2 rfl dX1_take_20 ?_
    refine p_1_22 (pc := 21) hk (rfl) dX1_take_21 (fun st5 => ?_)
    refine j_aload_n (pc := 24) hk 0 rfl ⟨_, rfl⟩ dX1_take_24 ?_
    refine j_aload_n (pc := 25) hk 1 rfl ⟨_, rfl⟩ dX1_take_25 ?_
    refine f_1_37 (pc := 26) hk (ho1) dX1_take_26 ?_
    refine j_iload_n (pc := 29) hk 2 rfl dX1_take_29 ?_
    refine a_iload (pc := 30) hk (isI_0_2 (ho1)) dX1_take_30 (fun x6 => ?_)
    refine p_1_25 (pc := 31) hk (rfl) dX1_take_31 (fun st7 => ?_)
    exact j_vret (pc := 34) hk dX1_take_34
  · exact j_vret (pc := 8) hk dX1_take_8
theorem dX1_traced_0 : decode cX1_traced 0 = .ok (.aload_n 0, 1) := by decide +kernel
theorem dX1_traced_1 : decode cX1_traced 1 = .ok (.getfield 15, 3) := by decide +kernel
theorem dX1_traced_4 : decode cX1_traced 4 = .ok (.aload_n 0, 1) := by decide +kernel
theorem dX1_traced_5 : decode cX1_traced 5 = .ok (.getfield 9, 3) := by decide +kernel
theorem dX1_traced_8 : decode cX1_traced 8 = .ok (.arraylength, 1) := by decide +kernel
theorem dX1_traced_9 : decode cX1_traced 9 = .ok (.invokestatic 40, 3) := by decide +kernel
theorem dX1_traced_12 : decode cX1_traced 12 = .ok (.ireturn, 1) := by decide +kernel
def F1_traced (st : fkS) : Option (Int32 × fkS) :=
fk_let (gI st 21 36) <| fun x1 =>
some ((fk_min x1 (20 : Int32)), st)
set_option maxHeartbeats 1000000 in
set_option maxRecDepth 20000 in
theorem C1_traced (st : fkS) {g : fkG} (l : Launch) (o : Int32 × fkS) (hF : F1_traced st = some o) : fk_C wC yX1_traced cX1_traced 1 (some (.int)) 1 100 l g [fk_r g 36] st (fk_eI o.1) o.2 := by
  refine fk_begin rfl (Nat.le_of_ble_eq_true rfl) (fun k hk => ?_) o hF
  have hk : fk_ok wC g k RX1 cX1_traced 1 (some (.int)) 1 100 := hk
  show fk_J wC g fk_eI k 0 [(0, fk_r g 36)] [] st (F1_traced st)
  unfold F1_traced
  refine j_aload_n (pc := 0) hk 0 rfl ⟨_, rfl⟩ dX1_traced_0 ?_
  refine f_1_15 (pc := 1) hk (rfl) dX1_traced_1 (fun x1 => ?_)
  refine j_aload_n (pc := 4) hk 0 rfl ⟨_, rfl⟩ dX1_traced_4 ?_
  refine f_1_9 (pc := 5) hk (rfl) dX1_traced_5 ?_
  refine a_ilen (pc := 8) hk (isI_1_0 (rfl)) (v := 20) (by decide) dX1_traced_8 ?_
  refine j_mmin (pc := 9) hk ml_1_40 wd_min1 wd_math wd_min2 (Nat.le_of_ble_eq_true rfl) (Nat.le_of_ble_eq_true rfl) dX1_traced_9 ?_
  exact j_iret (pc := 12) hk dX1_traced_12
theorem dX1_begin_0 : decode cX1_begin 0 = .ok (.aload_n 0, 1) := by decide +kernel
theorem dX1_begin_1 : decode cX1_begin 1 = .ok (.getfield 15, 3) := by decide +kernel
theorem dX1_begin_4 : decode cX1_begin 4 = .ok (.ifCond .lt 25, 3) := by decide +kernel
theorem dX1_begin_7 : decode cX1_begin 7 = .ok (.aload_n 0, 1) := by decide +kernel
theorem dX1_begin_8 : decode cX1_begin 8 = .ok (.getfield 15, 3) := by decide +kernel
theorem dX1_begin_11 : decode cX1_begin 11 = .ok (.aload_n 0, 1) := by decide +kernel
theorem dX1_begin_12 : decode cX1_begin 12 = .ok (.getfield 9, 3) := by decide +kernel
theorem dX1_begin_15 : decode cX1_begin 15 = .ok (.arraylength, 1) := by decide +kernel
theorem dX1_begin_16 : decode cX1_begin 16 = .ok (.if_icmp .ge 13, 3) := by decide +kernel
theorem dX1_begin_19 : decode cX1_begin 19 = .ok (.aload_n 0, 1) := by decide +kernel
theorem dX1_begin_20 : decode cX1_begin 20 = .ok (.getfield 9, 3) := by decide +kernel
theorem dX1_begin_23 : decode cX1_begin 23 = .ok (.aload_n 0, 1) := by decide +kernel
theorem dX1_begin_24 : decode cX1_begin 24 = .ok (.getfield 15, 3) := by decide +kernel
theorem dX1_begin_27 : decode cX1_begin 27 = .ok (.iload_n 1, 1) := by decide +kernel
theorem dX1_begin_28 : decode cX1_begin 28 = .ok (.iastore, 1) := by decide +kernel
theorem dX1_begin_29 : decode cX1_begin 29 = .ok (.aload_n 0, 1) := by decide +kernel
theorem dX1_begin_30 : decode cX1_begin 30 = .ok (.dup, 1) := by decide +kernel
theorem dX1_begin_31 : decode cX1_begin 31 = .ok (.getfield 15, 3) := by decide +kernel
theorem dX1_begin_34 : decode cX1_begin 34 = .ok (.iconst 1, 1) := by decide +kernel
theorem dX1_begin_35 : decode cX1_begin 35 = .ok (.iadd, 1) := by decide +kernel
theorem dX1_begin_36 : decode cX1_begin 36 = .ok (.putfield 15, 3) := by decide +kernel
theorem dX1_begin_39 : decode cX1_begin 39 = .ok (.return_, 1) := by decide +kernel
def B1_begin_29 (st : fkS) : Option (Unit × fkS) :=
fk_let (gI st 21 36) <| fun x5 =>
fk_let (sI st 21 36 (x5 + (1 : Int32))) <| fun st6 =>
some ((), st6)
set_option maxHeartbeats 1000000 in
set_option maxRecDepth 20000 in
theorem T1_begin_29 {g : fkG} {k : fkK} (hk : fk_ok wC g k RX1 cX1_begin 2 none 0 0) : ∀ (st : fkS), fk_J wC g fk_eU k 29 [(0, fk_r g 36)] [] st (B1_begin_29 st) := by
  intro st
  unfold B1_begin_29
  refine j_aload_n (pc := 29) hk 0 rfl ⟨_, rfl⟩ dX1_begin_29 ?_
  refine j_dup (pc := 30) hk rfl dX1_begin_30 ?_
  refine f_1_15 (pc := 31) hk (rfl) dX1_begin_31 (fun x5 => ?_)
  refine j_iconst (pc := 34) hk dX1_begin_34 (v := 1) (by decide) ?_
  refine j_iadd (pc := 35) hk dX1_begin_35 ?_
  refine p_1_15 (pc := 36) hk (rfl) dX1_begin_36 (fun st6 => ?_)
  exact j_vret (pc := 39) hk dX1_begin_39
def F1_begin (p1 : Int32) (st : fkS) : Option (Unit × fkS) :=
fk_let (gI st 21 36) <| fun x1 =>
if x1 < 0 then
(B1_begin_29 st)
else
(fk_let (gI st 21 36) <| fun x2 =>
if (20 : Int32) ≤ x2 then
(B1_begin_29 st)
else
(fk_let (gI st 21 36) <| fun x3 =>
fk_chk (fk_in x3 20) <| fk_let (sA st 37 x3.toNatClampNeg p1) <| fun st4 =>
B1_begin_29 st4))
set_option maxHeartbeats 1000000 in
set_option maxRecDepth 20000 in
theorem C1_begin (p1 : Int32) (st : fkS) {g : fkG} (l : Launch) (o : Unit × fkS) (hF : F1_begin p1 st = some o) : fk_C wC yX1_begin cX1_begin 2 none 0 0 l g [fk_r g 36, .int p1] st (fk_eU o.1) o.2 := by
  refine fk_begin rfl (Nat.le_of_ble_eq_true rfl) (fun k hk => ?_) o hF
  have hk : fk_ok wC g k RX1 cX1_begin 2 none 0 0 := hk
  show fk_J wC g fk_eU k 0 [(0, fk_r g 36), (1, .int p1)] [] st (F1_begin p1 st)
  unfold F1_begin
  refine j_aload_n (pc := 0) hk 0 rfl ⟨_, rfl⟩ dX1_begin_0 ?_
  refine f_1_15 (pc := 1) hk (rfl) dX1_begin_1 (fun x1 => ?_)
  refine j_if_lt (tgt := 29) (pc := 4) hk (by decide) dX1_begin_4 (fun _ => ?_) (fun _ => ?_)
  · exact j_sub hk [0] rfl (T1_begin_29 hk st)
  · refine j_aload_n (pc := 7) hk 0 rfl ⟨_, rfl⟩ dX1_begin_7 ?_
    refine f_1_15 (pc := 8) hk (rfl) dX1_begin_8 (fun x2 => ?_)
    refine j_aload_n (pc := 11) hk 0 rfl ⟨_, rfl⟩ dX1_begin_11 ?_
    refine f_1_9 (pc := 12) hk (rfl) dX1_begin_12 ?_
    refine a_ilen (pc := 15) hk (isI_1_0 (rfl)) (v := 20) (by decide) dX1_begin_15 ?_
    refine j_icmp_ge (tgt := 29) (pc := 16) hk (by decide) dX1_begin_16 (fun _ => ?_) (fun _ => ?_)
    · exact j_sub hk [0] rfl (T1_begin_29 hk st)
    · refine j_aload_n (pc := 19) hk 0 rfl ⟨_, rfl⟩ dX1_begin_19 ?_
      refine f_1_9 (pc := 20) hk (rfl) dX1_begin_20 ?_
      refine j_aload_n (pc := 23) hk 0 rfl ⟨_, rfl⟩ dX1_begin_23 ?_
      refine f_1_15 (pc := 24) hk (rfl) dX1_begin_24 (fun x3 => ?_)
      refine j_iload_n (pc := 27) hk 1 rfl dX1_begin_27 ?_
      refine a_istore (pc := 28) hk (isI_1_0 (rfl)) dX1_begin_28 (fun st4 => ?_)
      exact j_sub hk [0] rfl (T1_begin_29 hk st4)
theorem dX1_bodyFrom_0 : decode cX1_bodyFrom 0 = .ok (.iload_n 1, 1) := by decide +kernel
theorem dX1_bodyFrom_1 : decode cX1_bodyFrom 1 = .ok (.istore_n 2, 1) := by decide +kernel
theorem dX1_bodyFrom_2 : decode cX1_bodyFrom 2 = .ok (.iconst 0, 1) := by decide +kernel
theorem dX1_bodyFrom_3 : decode cX1_bodyFrom 3 = .ok (.istore_n 3, 1) := by decide +kernel
theorem dX1_bodyFrom_4 : decode cX1_bodyFrom 4 = .ok (.iload_n 3, 1) := by decide +kernel
theorem dX1_bodyFrom_5 : decode cX1_bodyFrom 5 = .ok (.bipush 7, 2) := by decide +kernel
theorem dX1_bodyFrom_7 : decode cX1_bodyFrom 7 = .ok (.if_icmp .ge 63, 3) := by decide +kernel
theorem dX1_bodyFrom_10 : decode cX1_bodyFrom 10 = .ok (.iload_n 2, 1) := by decide +kernel
theorem dX1_bodyFrom_11 : decode cX1_bodyFrom 11 = .ok (.ifCond .lt 59, 3) := by decide +kernel
theorem dX1_bodyFrom_14 : decode cX1_bodyFrom 14 = .ok (.iload_n 2, 1) := by decide +kernel
theorem dX1_bodyFrom_15 : decode cX1_bodyFrom 15 = .ok (.bipush 7, 2) := by decide +kernel
theorem dX1_bodyFrom_17 : decode cX1_bodyFrom 17 = .ok (.if_icmp .ge 53, 3) := by decide +kernel
theorem dX1_bodyFrom_20 : decode cX1_bodyFrom 20 = .ok (.iload_n 0, 1) := by decide +kernel
theorem dX1_bodyFrom_21 : decode cX1_bodyFrom 21 = .ok (.bipush 7, 2) := by decide +kernel
theorem dX1_bodyFrom_23 : decode cX1_bodyFrom 23 = .ok (.imul, 1) := by decide +kernel
theorem dX1_bodyFrom_24 : decode cX1_bodyFrom 24 = .ok (.iload_n 2, 1) := by decide +kernel
theorem dX1_bodyFrom_25 : decode cX1_bodyFrom 25 = .ok (.iadd, 1) := by decide +kernel
theorem dX1_bodyFrom_26 : decode cX1_bodyFrom 26 = .ok (.istore 4, 2) := by decide +kernel
theorem dX1_bodyFrom_28 : decode cX1_bodyFrom 28 = .ok (.iload 4, 2) := by decide +kernel
theorem dX1_bodyFrom_30 : decode cX1_bodyFrom 30 = .ok (.ifCond .lt 28, 3) := by decide +kernel
theorem dX1_bodyFrom_33 : decode cX1_bodyFrom 33 = .ok (.iload 4, 2) := by decide +kernel
theorem dX1_bodyFrom_35 : decode cX1_bodyFrom 35 = .ok (.getstatic 46, 3) := by decide +kernel
theorem dX1_bodyFrom_38 : decode cX1_bodyFrom 38 = .ok (.arraylength, 1) := by decide +kernel
theorem dX1_bodyFrom_39 : decode cX1_bodyFrom 39 = .ok (.if_icmp .ge 19, 3) := by decide +kernel
theorem dX1_bodyFrom_42 : decode cX1_bodyFrom 42 = .ok (.getstatic 46, 3) := by decide +kernel
theorem dX1_bodyFrom_45 : decode cX1_bodyFrom 45 = .ok (.iload 4, 2) := by decide +kernel
theorem dX1_bodyFrom_47 : decode cX1_bodyFrom 47 = .ok (.iaload, 1) := by decide +kernel
theorem dX1_bodyFrom_48 : decode cX1_bodyFrom 48 = .ok (.ifCond .eq 10, 3) := by decide +kernel
theorem dX1_bodyFrom_51 : decode cX1_bodyFrom 51 = .ok (.getstatic 46, 3) := by decide +kernel
theorem dX1_bodyFrom_54 : decode cX1_bodyFrom 54 = .ok (.iload 4, 2) := by decide +kernel
theorem dX1_bodyFrom_56 : decode cX1_bodyFrom 56 = .ok (.iaload, 1) := by decide +kernel
theorem dX1_bodyFrom_57 : decode cX1_bodyFrom 57 = .ok (.ireturn, 1) := by decide +kernel
theorem dX1_bodyFrom_58 : decode cX1_bodyFrom 58 = .ok (.getstatic 49, 3) := by decide +kernel
theorem dX1_bodyFrom_61 : decode cX1_bodyFrom 61 = .ok (.iload_n 2, 1) := by decide +kernel
theorem dX1_bodyFrom_62 : decode cX1_bodyFrom 62 = .ok (.iaload, 1) := by decide +kernel
theorem dX1_bodyFrom_63 : decode cX1_bodyFrom 63 = .ok (.istore_n 2, 1) := by decide +kernel
theorem dX1_bodyFrom_64 : decode cX1_bodyFrom 64 = .ok (.iinc 3 1, 3) := by decide +kernel
theorem dX1_bodyFrom_67 : decode cX1_bodyFrom 67 = .ok (.goto (-63), 3) := by decide +kernel
theorem dX1_bodyFrom_70 : decode cX1_bodyFrom 70 = .ok (.iconst 0, 1) := by decide +kernel
theorem dX1_bodyFrom_71 : decode cX1_bodyFrom 71 = .ok (.ireturn, 1) := by decide +kernel
def B1_bodyFrom_58 (k4 : Int32 → Int32 → Int32 → fkS → Option (Int32 × fkS)) (v0 : Int32) (v2 : Int32) (v3 : Int32) (st : fkS) : Option (Int32 × fkS) :=
fk_chk (fk_in v2 7) <| fk_let (fk_ka v2.toNatClampNeg) <| fun x3 =>
k4 v0 x3 (v3 + (1 : Int32)) st
set_option maxHeartbeats 1000000 in
set_option maxRecDepth 20000 in
theorem T1_bodyFrom_58 {g : fkG} {k : fkK} (hk : fk_ok wC g k RX1 cX1_bodyFrom 5 (some (.int)) 0 0) (k4 : Int32 → Int32 → Int32 → fkS → Option (Int32 × fkS)) (H4 : ∀ (v0 : Int32) (v2 : Int32) (v3 : Int32) (st : fkS), fk_J wC g fk_eI k 4 [(0, .int v0), (2, .int v2), (3, .int v3)] [] st (k4 v0 v2 v3 st)) : ∀ (v0 : Int32) (v2 : Int32) (v3 : Int32) (st : fkS), fk_J wC g fk_eI k 58 [(0, .int v0), (2, .int v2), (3, .int v3)] [] st (B1_bodyFrom_58 k4 v0 v2 v3 st) := by
  intro v0 v2 v3 st
  unfold B1_bodyFrom_58
  refine a_kagetN (pc := 58) hk dX1_bodyFrom_58 ?_
  refine j_iload_n (pc := 61) hk 1 rfl dX1_bodyFrom_61 ?_
  refine a_kaload (pc := 62) hk dX1_bodyFrom_62 (fun x3 => ?_)
  refine j_istore_n (lv' := ((2, .int x3) :: [(0, .int v0), (3, .int v3)])) (pc := 63) hk rfl (by decide) rfl dX1_bodyFrom_63 ?_
  refine j_sub hk (lv' := [(0, .int v0), (2, .int x3), (3, .int v3)]) [1, 0, 2] rfl ?_
  refine j_iinc (dd := (1 : Int32)) (lv' := ((3, .int (v3 + (1 : Int32))) :: [(0, .int v0), (2, .int x3)])) (pc := 64) hk 2 rfl (by decide) (by decide) rfl dX1_bodyFrom_64 ?_
  refine j_sub hk (lv' := [(0, .int v0), (2, .int x3), (3, .int (v3 + (1 : Int32)))]) [1, 2, 0] rfl ?_
  refine j_goto (tgt := 4) (pc := 67) hk (by decide) dX1_bodyFrom_67 ?_
  exact j_sub hk [0, 1, 2] rfl (H4 v0 x3 (v3 + (1 : Int32)) st)
def B1_bodyFrom_4 (k4 : Int32 → Int32 → Int32 → fkS → Option (Int32 × fkS)) (v0 : Int32) (v2 : Int32) (v3 : Int32) (st : fkS) : Option (Int32 × fkS) :=
if (7 : Int32) ≤ v3 then
(some ((0 : Int32), st))
else
(if v2 < 0 then
(some ((0 : Int32), st))
else
(if (7 : Int32) ≤ v2 then
(some ((0 : Int32), st))
else
(if ((v0 * (7 : Int32)) + v2) < 0 then
(B1_bodyFrom_58 k4 v0 v2 v3 st)
else
(if (21 : Int32) ≤ ((v0 * (7 : Int32)) + v2) then
(B1_bodyFrom_58 k4 v0 v2 v3 st)
else
(fk_chk (fk_in ((v0 * (7 : Int32)) + v2) 21) <| fk_let (fk_bo ((v0 * (7 : Int32)) + v2).toNatClampNeg) <| fun x1 =>
if x1 = 0 then
(B1_bodyFrom_58 k4 v0 v2 v3 st)
else
(fk_chk (fk_in ((v0 * (7 : Int32)) + v2) 21) <| fk_let (fk_bo ((v0 * (7 : Int32)) + v2).toNatClampNeg) <| fun x2 =>
some (x2, st)))))))
set_option maxHeartbeats 1000000 in
set_option maxRecDepth 20000 in
theorem T1_bodyFrom_4 {g : fkG} {k : fkK} (hk : fk_ok wC g k RX1 cX1_bodyFrom 5 (some (.int)) 0 0) (k4 : Int32 → Int32 → Int32 → fkS → Option (Int32 × fkS)) (H4 : ∀ (v0 : Int32) (v2 : Int32) (v3 : Int32) (st : fkS), fk_J wC g fk_eI k 4 [(0, .int v0), (2, .int v2), (3, .int v3)] [] st (k4 v0 v2 v3 st)) : ∀ (v0 : Int32) (v2 : Int32) (v3 : Int32) (st : fkS), fk_J wC g fk_eI k 4 [(0, .int v0), (2, .int v2), (3, .int v3)] [] st (B1_bodyFrom_4 k4 v0 v2 v3 st) := by
  intro v0 v2 v3 st
  unfold B1_bodyFrom_4
  refine j_iload_n (pc := 4) hk 2 rfl dX1_bodyFrom_4 ?_
  refine j_bipush (pc := 5) hk dX1_bodyFrom_5 (v := 7) (by decide) ?_
  refine j_icmp_ge (tgt := 70) (pc := 7) hk (by decide) dX1_bodyFrom_7 (fun _ => ?_) (fun _ => ?_)
  · refine j_iconst (pc := 70) hk dX1_bodyFrom_70 (v := 0) (by decide) ?_
    exact j_iret (pc := 71) hk dX1_bodyFrom_71
  · refine j_iload_n (pc := 10) hk 1 rfl dX1_bodyFrom_10 ?_
    refine j_if_lt (tgt := 70) (pc := 11) hk (by decide) dX1_bodyFrom_11 (fun _ => ?_) (fun _ => ?_)
    · refine j_iconst (pc := 70) hk dX1_bodyFrom_70 (v := 0) (by decide) ?_
      exact j_iret (pc := 71) hk dX1_bodyFrom_71
    · refine j_iload_n (pc := 14) hk 1 rfl dX1_bodyFrom_14 ?_
      refine j_bipush (pc := 15) hk dX1_bodyFrom_15 (v := 7) (by decide) ?_
      refine j_icmp_ge (tgt := 70) (pc := 17) hk (by decide) dX1_bodyFrom_17 (fun _ => ?_) (fun _ => ?_)
      · refine j_iconst (pc := 70) hk dX1_bodyFrom_70 (v := 0) (by decide) ?_
        exact j_iret (pc := 71) hk dX1_bodyFrom_71
      · refine j_iload_n (pc := 20) hk 0 rfl dX1_bodyFrom_20 ?_
        refine j_bipush (pc := 21) hk dX1_bodyFrom_21 (v := 7) (by decide) ?_
        refine j_imul (pc := 23) hk dX1_bodyFrom_23 ?_
        refine j_iload_n (pc := 24) hk 1 rfl dX1_bodyFrom_24 ?_
        refine j_iadd (pc := 25) hk dX1_bodyFrom_25 ?_
        refine j_istore (lv' := ((4, .int ((v0 * (7 : Int32)) + v2)) :: [(0, .int v0), (2, .int v2), (3, .int v3)])) (pc := 26) hk (by decide) rfl dX1_bodyFrom_26 ?_
        refine j_sub hk (lv' := [(0, .int v0), (2, .int v2), (3, .int v3), (4, .int ((v0 * (7 : Int32)) + v2))]) [1, 2, 3, 0] rfl ?_
        refine j_iload (pc := 28) hk 3 rfl dX1_bodyFrom_28 ?_
        refine j_if_lt (tgt := 58) (pc := 30) hk (by decide) dX1_bodyFrom_30 (fun _ => ?_) (fun _ => ?_)
        · exact j_sub hk [0, 1, 2] rfl (T1_bodyFrom_58 hk k4 H4 v0 v2 v3 st)
        · refine j_iload (pc := 33) hk 3 rfl dX1_bodyFrom_33 ?_
          refine a_boget (pc := 35) hk dX1_bodyFrom_35 ?_
          refine a_bolen (pc := 38) hk dX1_bodyFrom_38 ?_
          refine j_icmp_ge (tgt := 58) (pc := 39) hk (by decide) dX1_bodyFrom_39 (fun _ => ?_) (fun _ => ?_)
          · exact j_sub hk [0, 1, 2] rfl (T1_bodyFrom_58 hk k4 H4 v0 v2 v3 st)
          · refine a_boget (pc := 42) hk dX1_bodyFrom_42 ?_
            refine j_iload (pc := 45) hk 3 rfl dX1_bodyFrom_45 ?_
            refine a_boload (pc := 47) hk dX1_bodyFrom_47 (fun x1 => ?_)
            refine j_if_eq (tgt := 58) (pc := 48) hk (by decide) dX1_bodyFrom_48 (fun _ => ?_) (fun _ => ?_)
            · exact j_sub hk [0, 1, 2] rfl (T1_bodyFrom_58 hk k4 H4 v0 v2 v3 st)
            · refine a_boget (pc := 51) hk dX1_bodyFrom_51 ?_
              refine j_iload (pc := 54) hk 3 rfl dX1_bodyFrom_54 ?_
              refine a_boload (pc := 56) hk dX1_bodyFrom_56 (fun x2 => ?_)
              exact j_iret (pc := 57) hk dX1_bodyFrom_57
set_option maxHeartbeats 1000000 in
set_option maxRecDepth 20000 in
theorem L1_bodyFrom_4 {g : fkG} {k : fkK} (hk : fk_ok wC g k RX1 cX1_bodyFrom 5 (some (.int)) 0 0) (fu : Nat) : ∀ (v0 : Int32) (v2 : Int32) (v3 : Int32) (st : fkS), fk_J wC g fk_eI k 4 [(0, .int v0), (2, .int v2), (3, .int v3)] [] st (fk_lp3 (B1_bodyFrom_4) fu v0 v2 v3 st) := by
  induction fu with
  | zero =>
    intro v0 v2 v3 st
    exact j_none hk
  | succ fu ih =>
    exact T1_bodyFrom_4 hk _ ih
def F1_bodyFrom (p0 : Int32) (p1 : Int32) (st : fkS) : Option (Int32 × fkS) :=
fk_lp3 (B1_bodyFrom_4) fk_fuel p0 p1 (0 : Int32) st
set_option maxHeartbeats 1000000 in
set_option maxRecDepth 20000 in
theorem C1_bodyFrom (p0 : Int32) (p1 : Int32) (st : fkS) {g : fkG} (l : Launch) (o : Int32 × fkS) (hF : F1_bodyFrom p0 p1 st = some o) : fk_C wC yX1_bodyFrom cX1_bodyFrom 5 (some (.int)) 0 0 l g [.int p0, .int p1] st (fk_eI o.1) o.2 := by
  refine fk_begin rfl (Nat.le_of_ble_eq_true rfl) (fun k hk => ?_) o hF
  have hk : fk_ok wC g k RX1 cX1_bodyFrom 5 (some (.int)) 0 0 := hk
  show fk_J wC g fk_eI k 0 [(0, .int p0), (1, .int p1)] [] st (F1_bodyFrom p0 p1 st)
  unfold F1_bodyFrom
  refine j_iload_n (pc := 0) hk 1 rfl dX1_bodyFrom_0 ?_
  refine j_istore_n (lv' := ((2, .int p1) :: [(0, .int p0), (1, .int p1)])) (pc := 1) hk rfl (by decide) rfl dX1_bodyFrom_1 ?_
  refine j_sub hk (lv' := [(0, .int p0), (1, .int p1), (2, .int p1)]) [1, 2, 0] rfl ?_
  refine j_iconst (pc := 2) hk dX1_bodyFrom_2 (v := 0) (by decide) ?_
  refine j_istore_n (lv' := ((3, .int (0 : Int32)) :: [(0, .int p0), (1, .int p1), (2, .int p1)])) (pc := 3) hk rfl (by decide) rfl dX1_bodyFrom_3 ?_
  refine j_sub hk (lv' := [(0, .int p0), (1, .int p1), (2, .int p1), (3, .int (0 : Int32))]) [1, 2, 3, 0] rfl ?_
  exact j_sub hk [0, 2, 3] rfl (L1_bodyFrom_4 hk fk_fuel p0 p1 (0 : Int32) st)
theorem dX1_run_0 : decode cX1_run 0 = .ok (.aload_n 0, 1) := by decide +kernel
theorem dX1_run_1 : decode cX1_run 1 = .ok (.ifnull 10, 3) := by decide +kernel
theorem dX1_run_4 : decode cX1_run 4 = .ok (.iload 4, 2) := by decide +kernel
theorem dX1_run_6 : decode cX1_run 6 = .ok (.bipush 8, 2) := by decide +kernel
theorem dX1_run_8 : decode cX1_run 8 = .ok (.if_icmp .le 5, 3) := by decide +kernel
theorem dX1_run_11 : decode cX1_run 11 = .ok (.iconst 0, 1) := by decide +kernel
theorem dX1_run_12 : decode cX1_run 12 = .ok (.ireturn, 1) := by decide +kernel
theorem dX1_run_13 : decode cX1_run 13 = .ok (.iload_n 1, 1) := by decide +kernel
theorem dX1_run_14 : decode cX1_run 14 = .ok (.iload_n 2, 1) := by decide +kernel
theorem dX1_run_15 : decode cX1_run 15 = .ok (.invokestatic 52, 3) := by decide +kernel
theorem dX1_run_18 : decode cX1_run 18 = .ok (.istore 5, 2) := by decide +kernel
theorem dX1_run_20 : decode cX1_run 20 = .ok (.iload 4, 2) := by decide +kernel
theorem dX1_run_22 : decode cX1_run 22 = .ok (.iconst 1, 1) := by decide +kernel
theorem dX1_run_23 : decode cX1_run 23 = .ok (.iadd, 1) := by decide +kernel
theorem dX1_run_24 : decode cX1_run 24 = .ok (.istore 6, 2) := by decide +kernel
theorem dX1_run_26 : decode cX1_run 26 = .ok (.aload_n 0, 1) := by decide +kernel
theorem dX1_run_27 : decode cX1_run 27 = .ok (.iload 5, 2) := by decide +kernel
theorem dX1_run_29 : decode cX1_run 29 = .ok (.invokevirtual 55, 3) := by decide +kernel
theorem dX1_run_32 : decode cX1_run 32 = .ok (.iload 5, 2) := by decide +kernel
theorem dX1_run_34 : decode cX1_run 34 = .ok (.lookupswitch 255 #[(10, 98), (11, 105), (12, 120), (20, 151), (30, 166), (40, 178), (50, 190), (51, 201), (60, 216), (70, 228), (71, 240)], 98) := by decide +kernel
theorem dX1_run_132 : decode cX1_run 132 = .ok (.iload_n 3, 1) := by decide +kernel
theorem dX1_run_133 : decode cX1_run 133 = .ok (.aload_n 0, 1) := by decide +kernel
theorem dX1_run_134 : decode cX1_run 134 = .ok (.getfield 22, 3) := by decide +kernel
theorem dX1_run_137 : decode cX1_run 137 = .ok (.iadd, 1) := by decide +kernel
theorem dX1_run_138 : decode cX1_run 138 = .ok (.ireturn, 1) := by decide +kernel
theorem dX1_run_139 : decode cX1_run 139 = .ok (.aload_n 0, 1) := by decide +kernel
theorem dX1_run_140 : decode cX1_run 140 = .ok (.iconst 0, 1) := by decide +kernel
theorem dX1_run_141 : decode cX1_run 141 = .ok (.aload_n 0, 1) := by decide +kernel
theorem dX1_run_142 : decode cX1_run 142 = .ok (.getfield 19, 3) := by decide +kernel
theorem dX1_run_145 : decode cX1_run 145 = .ok (.iload_n 3, 1) := by decide +kernel
theorem dX1_run_146 : decode cX1_run 146 = .ok (.iload 6, 2) := by decide +kernel
theorem dX1_run_148 : decode cX1_run 148 = .ok (.invokestatic 59, 3) := by decide +kernel
theorem dX1_run_151 : decode cX1_run 151 = .ok (.iconst 2, 1) := by decide +kernel
theorem dX1_run_152 : decode cX1_run 152 = .ok (.imul, 1) := by decide +kernel
theorem dX1_run_153 : decode cX1_run 153 = .ok (.ireturn, 1) := by decide +kernel
theorem dX1_run_154 : decode cX1_run 154 = .ok (.aload_n 0, 1) := by decide +kernel
theorem dX1_run_155 : decode cX1_run 155 = .ok (.iconst 1, 1) := by decide +kernel
theorem dX1_run_156 : decode cX1_run 156 = .ok (.aload_n 0, 1) := by decide +kernel
theorem dX1_run_157 : decode cX1_run 157 = .ok (.getfield 19, 3) := by decide +kernel
theorem dX1_run_160 : decode cX1_run 160 = .ok (.iload_n 3, 1) := by decide +kernel
theorem dX1_run_161 : decode cX1_run 161 = .ok (.iload 6, 2) := by decide +kernel
theorem dX1_run_163 : decode cX1_run 163 = .ok (.invokestatic 59, 3) := by decide +kernel
theorem dX1_run_166 : decode cX1_run 166 = .ok (.aload_n 0, 1) := by decide +kernel
theorem dX1_run_167 : decode cX1_run 167 = .ok (.iconst 0, 1) := by decide +kernel
theorem dX1_run_168 : decode cX1_run 168 = .ok (.aload_n 0, 1) := by decide +kernel
theorem dX1_run_169 : decode cX1_run 169 = .ok (.getfield 19, 3) := by decide +kernel
theorem dX1_run_172 : decode cX1_run 172 = .ok (.iload_n 3, 1) := by decide +kernel
theorem dX1_run_173 : decode cX1_run 173 = .ok (.aload_n 0, 1) := by decide +kernel
theorem dX1_run_174 : decode cX1_run 174 = .ok (.getfield 25, 3) := by decide +kernel
theorem dX1_run_177 : decode cX1_run 177 = .ok (.isub, 1) := by decide +kernel
theorem dX1_run_178 : decode cX1_run 178 = .ok (.iload 6, 2) := by decide +kernel
theorem dX1_run_180 : decode cX1_run 180 = .ok (.invokestatic 59, 3) := by decide +kernel
theorem dX1_run_183 : decode cX1_run 183 = .ok (.ixor, 1) := by decide +kernel
theorem dX1_run_184 : decode cX1_run 184 = .ok (.ireturn, 1) := by decide +kernel
theorem dX1_run_185 : decode cX1_run 185 = .ok (.aload_n 0, 1) := by decide +kernel
theorem dX1_run_186 : decode cX1_run 186 = .ok (.iconst 0, 1) := by decide +kernel
theorem dX1_run_187 : decode cX1_run 187 = .ok (.iconst 0, 1) := by decide +kernel
theorem dX1_run_188 : decode cX1_run 188 = .ok (.iload_n 3, 1) := by decide +kernel
theorem dX1_run_189 : decode cX1_run 189 = .ok (.iload 6, 2) := by decide +kernel
theorem dX1_run_191 : decode cX1_run 191 = .ok (.invokestatic 59, 3) := by decide +kernel
theorem dX1_run_194 : decode cX1_run 194 = .ok (.aload_n 0, 1) := by decide +kernel
theorem dX1_run_195 : decode cX1_run 195 = .ok (.getfield 25, 3) := by decide +kernel
theorem dX1_run_198 : decode cX1_run 198 = .ok (.iadd, 1) := by decide +kernel
theorem dX1_run_199 : decode cX1_run 199 = .ok (.ireturn, 1) := by decide +kernel
theorem dX1_run_200 : decode cX1_run 200 = .ok (.aload_n 0, 1) := by decide +kernel
theorem dX1_run_201 : decode cX1_run 201 = .ok (.iconst 1, 1) := by decide +kernel
theorem dX1_run_202 : decode cX1_run 202 = .ok (.iconst 0, 1) := by decide +kernel
theorem dX1_run_203 : decode cX1_run 203 = .ok (.iload_n 3, 1) := by decide +kernel
theorem dX1_run_204 : decode cX1_run 204 = .ok (.iload 6, 2) := by decide +kernel
theorem dX1_run_206 : decode cX1_run 206 = .ok (.invokestatic 59, 3) := by decide +kernel
theorem dX1_run_209 : decode cX1_run 209 = .ok (.iconst 3, 1) := by decide +kernel
theorem dX1_run_210 : decode cX1_run 210 = .ok (.imul, 1) := by decide +kernel
theorem dX1_run_211 : decode cX1_run 211 = .ok (.ireturn, 1) := by decide +kernel
theorem dX1_run_212 : decode cX1_run 212 = .ok (.aload_n 0, 1) := by decide +kernel
theorem dX1_run_213 : decode cX1_run 213 = .ok (.iconst 0, 1) := by decide +kernel
theorem dX1_run_214 : decode cX1_run 214 = .ok (.iconst 1, 1) := by decide +kernel
theorem dX1_run_215 : decode cX1_run 215 = .ok (.iload_n 3, 1) := by decide +kernel
theorem dX1_run_216 : decode cX1_run 216 = .ok (.iconst 1, 1) := by decide +kernel
theorem dX1_run_217 : decode cX1_run 217 = .ok (.iadd, 1) := by decide +kernel
theorem dX1_run_218 : decode cX1_run 218 = .ok (.iload 6, 2) := by decide +kernel
theorem dX1_run_220 : decode cX1_run 220 = .ok (.invokestatic 59, 3) := by decide +kernel
theorem dX1_run_223 : decode cX1_run 223 = .ok (.ireturn, 1) := by decide +kernel
theorem dX1_run_224 : decode cX1_run 224 = .ok (.aload_n 0, 1) := by decide +kernel
theorem dX1_run_225 : decode cX1_run 225 = .ok (.iconst 2, 1) := by decide +kernel
theorem dX1_run_226 : decode cX1_run 226 = .ok (.iconst 0, 1) := by decide +kernel
theorem dX1_run_227 : decode cX1_run 227 = .ok (.iload_n 3, 1) := by decide +kernel
theorem dX1_run_228 : decode cX1_run 228 = .ok (.iload 6, 2) := by decide +kernel
theorem dX1_run_230 : decode cX1_run 230 = .ok (.invokestatic 59, 3) := by decide +kernel
theorem dX1_run_233 : decode cX1_run 233 = .ok (.ineg, 1) := by decide +kernel
theorem dX1_run_234 : decode cX1_run 234 = .ok (.ireturn, 1) := by decide +kernel
theorem dX1_run_235 : decode cX1_run 235 = .ok (.aload_n 0, 1) := by decide +kernel
theorem dX1_run_236 : decode cX1_run 236 = .ok (.iconst 0, 1) := by decide +kernel
theorem dX1_run_237 : decode cX1_run 237 = .ok (.iconst 0, 1) := by decide +kernel
theorem dX1_run_238 : decode cX1_run 238 = .ok (.iload_n 3, 1) := by decide +kernel
theorem dX1_run_239 : decode cX1_run 239 = .ok (.iload 6, 2) := by decide +kernel
theorem dX1_run_241 : decode cX1_run 241 = .ok (.invokestatic 59, 3) := by decide +kernel
theorem dX1_run_244 : decode cX1_run 244 = .ok (.aload_n 0, 1) := by decide +kernel
theorem dX1_run_245 : decode cX1_run 245 = .ok (.getfield 22, 3) := by decide +kernel
theorem dX1_run_248 : decode cX1_run 248 = .ok (.isub, 1) := by decide +kernel
theorem dX1_run_249 : decode cX1_run 249 = .ok (.ireturn, 1) := by decide +kernel
theorem dX1_run_250 : decode cX1_run 250 = .ok (.aload_n 0, 1) := by decide +kernel
theorem dX1_run_251 : decode cX1_run 251 = .ok (.iconst 2, 1) := by decide +kernel
theorem dX1_run_252 : decode cX1_run 252 = .ok (.iconst 2, 1) := by decide +kernel
theorem dX1_run_253 : decode cX1_run 253 = .ok (.iload_n 3, 1) := by decide +kernel
theorem dX1_run_254 : decode cX1_run 254 = .ok (.iload 6, 2) := by decide +kernel
theorem dX1_run_256 : decode cX1_run 256 = .ok (.invokestatic 59, 3) := by decide +kernel
theorem dX1_run_259 : decode cX1_run 259 = .ok (.iconst 5, 1) := by decide +kernel
theorem dX1_run_260 : decode cX1_run 260 = .ok (.ixor, 1) := by decide +kernel
theorem dX1_run_261 : decode cX1_run 261 = .ok (.ireturn, 1) := by decide +kernel
theorem dX1_run_262 : decode cX1_run 262 = .ok (.aload_n 0, 1) := by decide +kernel
theorem dX1_run_263 : decode cX1_run 263 = .ok (.iconst 0, 1) := by decide +kernel
theorem dX1_run_264 : decode cX1_run 264 = .ok (.iconst 3, 1) := by decide +kernel
theorem dX1_run_265 : decode cX1_run 265 = .ok (.iload_n 3, 1) := by decide +kernel
theorem dX1_run_266 : decode cX1_run 266 = .ok (.iload 6, 2) := by decide +kernel
theorem dX1_run_268 : decode cX1_run 268 = .ok (.invokestatic 59, 3) := by decide +kernel
theorem dX1_run_271 : decode cX1_run 271 = .ok (.iconst 2, 1) := by decide +kernel
theorem dX1_run_272 : decode cX1_run 272 = .ok (.imul, 1) := by decide +kernel
theorem dX1_run_273 : decode cX1_run 273 = .ok (.ireturn, 1) := by decide +kernel
theorem dX1_run_274 : decode cX1_run 274 = .ok (.aload_n 0, 1) := by decide +kernel
theorem dX1_run_275 : decode cX1_run 275 = .ok (.iconst 1, 1) := by decide +kernel
theorem dX1_run_276 : decode cX1_run 276 = .ok (.iconst 3, 1) := by decide +kernel
theorem dX1_run_277 : decode cX1_run 277 = .ok (.iload_n 3, 1) := by decide +kernel
theorem dX1_run_278 : decode cX1_run 278 = .ok (.aload_n 0, 1) := by decide +kernel
theorem dX1_run_279 : decode cX1_run 279 = .ok (.getfield 25, 3) := by decide +kernel
theorem dX1_run_282 : decode cX1_run 282 = .ok (.isub, 1) := by decide +kernel
theorem dX1_run_283 : decode cX1_run 283 = .ok (.iload 6, 2) := by decide +kernel
theorem dX1_run_285 : decode cX1_run 285 = .ok (.invokestatic 59, 3) := by decide +kernel
theorem dX1_run_288 : decode cX1_run 288 = .ok (.ireturn, 1) := by decide +kernel
theorem dX1_run_289 : decode cX1_run 289 = .ok (.iconst 0, 1) := by decide +kernel
theorem dX1_run_290 : decode cX1_run 290 = .ok (.ireturn, 1) := by decide +kernel
def G1_run (rec : Int32 → Int32 → Int32 → Int32 → fkS → Option (Int32 × fkS)) (p1 : Int32) (p2 : Int32) (p3 : Int32) (p4 : Int32) (st : fkS) : Option (Int32 × fkS) :=
if p4 ≤ (8 : Int32) then
(fk_bind (F1_bodyFrom p1 p2 st) <| fun x1 st2 =>
fk_bind (F1_begin x1 st2) <| fun _ st3 =>
if x1 = (10 : Int32) then
(fk_let (gI st3 23 36) <| fun x5 =>
some ((p3 + x5), st3))
else
(if x1 = (11 : Int32) then
(fk_let (gI st3 22 36) <| fun x7 =>
fk_bind (rec (0 : Int32) x7 p3 (p4 + (1 : Int32)) st3) <| fun x8 st9 =>
some ((x8 * (2 : Int32)), st9))
else
(if x1 = (12 : Int32) then
(fk_let (gI st3 22 36) <| fun x11 =>
fk_bind (rec (1 : Int32) x11 p3 (p4 + (1 : Int32)) st3) <| fun x12 st13 =>
fk_let (gI st13 22 36) <| fun x14 =>
fk_let (gI st13 24 36) <| fun x15 =>
fk_bind (rec (0 : Int32) x14 (p3 - x15) (p4 + (1 : Int32)) st13) <| fun x16 st17 =>
some ((x12 ^^^ x16), st17))
else
(if x1 = (20 : Int32) then
(fk_bind (rec (0 : Int32) (0 : Int32) p3 (p4 + (1 : Int32)) st3) <| fun x19 st20 =>
fk_let (gI st20 24 36) <| fun x21 =>
some ((x19 + x21), st20))
else
(if x1 = (30 : Int32) then
(fk_bind (rec (1 : Int32) (0 : Int32) p3 (p4 + (1 : Int32)) st3) <| fun x23 st24 =>
some ((x23 * (3 : Int32)), st24))
else
(if x1 = (40 : Int32) then
(fk_bind (rec (0 : Int32) (1 : Int32) (p3 + (1 : Int32)) (p4 + (1 : Int32)) st3) <| fun x26 st27 =>
some (x26, st27))
else
(if x1 = (50 : Int32) then
(fk_bind (rec (2 : Int32) (0 : Int32) p3 (p4 + (1 : Int32)) st3) <| fun x29 st30 =>
some ((-x29), st30))
else
(if x1 = (51 : Int32) then
(fk_bind (rec (0 : Int32) (0 : Int32) p3 (p4 + (1 : Int32)) st3) <| fun x32 st33 =>
fk_let (gI st33 23 36) <| fun x34 =>
some ((x32 - x34), st33))
else
(if x1 = (60 : Int32) then
(fk_bind (rec (2 : Int32) (2 : Int32) p3 (p4 + (1 : Int32)) st3) <| fun x36 st37 =>
some ((x36 ^^^ (5 : Int32)), st37))
else
(if x1 = (70 : Int32) then
(fk_bind (rec (0 : Int32) (3 : Int32) p3 (p4 + (1 : Int32)) st3) <| fun x39 st40 =>
some ((x39 * (2 : Int32)), st40))
else
(if x1 = (71 : Int32) then
(fk_let (gI st3 24 36) <| fun x42 =>
fk_bind (rec (1 : Int32) (3 : Int32) (p3 - x42) (p4 + (1 : Int32)) st3) <| fun x43 st44 =>
some (x43, st44))
else
(some ((0 : Int32), st3)))))))))))))
else
(some ((0 : Int32), st))
set_option maxHeartbeats 1000000 in
set_option maxRecDepth 20000 in
theorem CG1_run (rec : Int32 → Int32 → Int32 → Int32 → fkS → Option (Int32 × fkS)) {g : fkG} {n : Nat} (hrec : ∀ (p1 : Int32) (p2 : Int32) (p3 : Int32) (p4 : Int32) (st : fkS) (l : Launch) (o : Int32 × fkS), rec p1 p2 p3 p4 st = some o → fk_C wC yX1_run cX1_run 7 (some .int) (n + 1) (n * 26 + 24) l g [fk_r g 36, .int p1, .int p2, .int p3, .int p4] st (fk_eI o.1) o.2) (p1 : Int32) (p2 : Int32) (p3 : Int32) (p4 : Int32) (st : fkS) (l : Launch) (o : Int32 × fkS) (hF : G1_run rec p1 p2 p3 p4 st = some o) : fk_C wC yX1_run cX1_run 7 (some (.int)) (n + 1 + 1) ((n + 1) * 26 + 24) l g [fk_r g 36, .int p1, .int p2, .int p3, .int p4] st (fk_eI o.1) o.2 := by
  refine fk_begin rfl (Nat.le_of_ble_eq_true rfl) (fun k hk => ?_) o hF
  have hk : fk_ok wC g k RX1 cX1_run 7 (some (.int)) (n + 1 + 1) ((n + 1) * 26 + 24) := hk
  show fk_J wC g fk_eI k 0 [(0, fk_r g 36), (1, .int p1), (2, .int p2), (3, .int p3), (4, .int p4)] [] st (G1_run rec p1 p2 p3 p4 st)
  unfold G1_run
  refine j_aload_n (pc := 0) hk 0 rfl ⟨_, rfl⟩ dX1_run_0 ?_
  refine j_ifnullR (pc := 1) hk ⟨_, rfl⟩ dX1_run_1 ?_
  refine j_iload (pc := 4) hk 4 rfl dX1_run_4 ?_
  refine j_bipush (pc := 6) hk dX1_run_6 (v := 8) (by decide) ?_
  refine j_icmp_le (tgt := 13) (pc := 8) hk (by decide) dX1_run_8 (fun _ => ?_) (fun _ => ?_)
  · refine j_iload_n (pc := 13) hk 1 rfl dX1_run_13 ?_
    refine j_iload_n (pc := 14) hk 2 rfl dX1_run_14 ?_
    refine j_callSi (pc := 15) hk [.int p1, .int p2] [] rfl (fun l o hq9 => C1_bodyFrom p1 p2 st l o hq9) yv_X1_bodyFrom ml_1_52 rfl (Nat.le_of_ble_eq_true rfl) (by omega) (by omega) dX1_run_15 (fun x1 st2 => ?_)
    refine j_istore (lv' := ((5, .int x1) :: [(0, fk_r g 36), (1, .int p1), (2, .int p2), (3, .int p3), (4, .int p4)])) (pc := 18) hk (by decide) rfl dX1_run_18 ?_
    refine j_sub hk (lv' := [(0, fk_r g 36), (1, .int p1), (2, .int p2), (3, .int p3), (4, .int p4), (5, .int x1)]) [1, 2, 3, 4, 5, 0] rfl ?_
    refine j_iload (pc := 20) hk 4 rfl dX1_run_20 ?_
    refine j_iconst (pc := 22) hk dX1_run_22 (v := 1) (by decide) ?_
    refine j_iadd (pc := 23) hk dX1_run_23 ?_
    refine j_istore (lv' := ((6, .int (p4 + (1 : Int32))) :: [(0, fk_r g 36), (1, .int p1), (2, .int p2), (3, .int p3), (4, .int p4), (5, .int x1)])) (pc := 24) hk (by decide) rfl dX1_run_24 ?_
    refine j_sub hk (lv' := [(0, fk_r g 36), (1, .int p1), (2, .int p2), (3, .int p3), (4, .int p4), (5, .int x1), (6, .int (p4 + (1 : Int32)))]) [1, 2, 3, 4, 5, 6, 0] rfl ?_
    refine j_aload_n (pc := 26) hk 0 rfl ⟨_, rfl⟩ dX1_run_26 ?_
    refine j_iload (pc := 27) hk 5 rfl dX1_run_27 ?_
    refine j_callVv (pc := 29) hk [.int x1] [] rfl (fun l o hq9 => C1_begin x1 st2 l o hq9) (rcv_1 (rfl)) yv_X1_begin ml_1_55 rfl (Nat.le_of_ble_eq_true rfl) (by omega) (by omega) dX1_run_29 (fun _ st3 => ?_)
    refine j_iload (pc := 32) hk 5 rfl dX1_run_32 ?_
    refine j_case (pc := 34) hk (fun n4 => ?_) (fun n4 => ?_)
    · refine j_lsw (off := 98) (tgt := 132) (pc := 34) hk (by decide) (by rw [n4]; decide) (by decide) dX1_run_34 ?_
      refine j_iload_n (pc := 132) hk 3 rfl dX1_run_132 ?_
      refine j_aload_n (pc := 133) hk 0 rfl ⟨_, rfl⟩ dX1_run_133 ?_
      refine f_1_22 (pc := 134) hk (rfl) dX1_run_134 (fun x5 => ?_)
      refine j_iadd (pc := 137) hk dX1_run_137 ?_
      exact j_iret (pc := 138) hk dX1_run_138
    · refine j_case (pc := 34) hk (fun n6 => ?_) (fun n6 => ?_)
      · refine j_lsw (off := 105) (tgt := 139) (pc := 34) hk (by decide) (by rw [n6]; decide) (by decide) dX1_run_34 ?_
        refine j_aload_n (pc := 139) hk 0 rfl ⟨_, rfl⟩ dX1_run_139 ?_
        refine j_iconst (pc := 140) hk dX1_run_140 (v := 0) (by decide) ?_
        refine j_aload_n (pc := 141) hk 0 rfl ⟨_, rfl⟩ dX1_run_141 ?_
        refine f_1_19 (pc := 142) hk (rfl) dX1_run_142 (fun x7 => ?_)
        refine j_iload_n (pc := 145) hk 3 rfl dX1_run_145 ?_
        refine j_iload (pc := 146) hk 6 rfl dX1_run_146 ?_
        refine j_callSi (pc := 148) hk [fk_r g 36, .int (0 : Int32), .int x7, .int p3, .int (p4 + (1 : Int32))] [] rfl (fun l o hq9 => hrec (0 : Int32) x7 p3 (p4 + (1 : Int32)) st3 l o hq9) yv_X1_run ml_1_59 rfl (Nat.le_of_ble_eq_true rfl) (by omega) (by omega) dX1_run_148 (fun x8 st9 => ?_)
        refine j_iconst (pc := 151) hk dX1_run_151 (v := 2) (by decide) ?_
        refine j_imul (pc := 152) hk dX1_run_152 ?_
        exact j_iret (pc := 153) hk dX1_run_153
      · refine j_case (pc := 34) hk (fun n10 => ?_) (fun n10 => ?_)
        · refine j_lsw (off := 120) (tgt := 154) (pc := 34) hk (by decide) (by rw [n10]; decide) (by decide) dX1_run_34 ?_
          refine j_aload_n (pc := 154) hk 0 rfl ⟨_, rfl⟩ dX1_run_154 ?_
          refine j_iconst (pc := 155) hk dX1_run_155 (v := 1) (by decide) ?_
          refine j_aload_n (pc := 156) hk 0 rfl ⟨_, rfl⟩ dX1_run_156 ?_
          refine f_1_19 (pc := 157) hk (rfl) dX1_run_157 (fun x11 => ?_)
          refine j_iload_n (pc := 160) hk 3 rfl dX1_run_160 ?_
          refine j_iload (pc := 161) hk 6 rfl dX1_run_161 ?_
          refine j_callSi (pc := 163) hk [fk_r g 36, .int (1 : Int32), .int x11, .int p3, .int (p4 + (1 : Int32))] [] rfl (fun l o hq9 => hrec (1 : Int32) x11 p3 (p4 + (1 : Int32)) st3 l o hq9) yv_X1_run ml_1_59 rfl (Nat.le_of_ble_eq_true rfl) (by omega) (by omega) dX1_run_163 (fun x12 st13 => ?_)
          refine j_aload_n (pc := 166) hk 0 rfl ⟨_, rfl⟩ dX1_run_166 ?_
          refine j_iconst (pc := 167) hk dX1_run_167 (v := 0) (by decide) ?_
          refine j_aload_n (pc := 168) hk 0 rfl ⟨_, rfl⟩ dX1_run_168 ?_
          refine f_1_19 (pc := 169) hk (rfl) dX1_run_169 (fun x14 => ?_)
          refine j_iload_n (pc := 172) hk 3 rfl dX1_run_172 ?_
          refine j_aload_n (pc := 173) hk 0 rfl ⟨_, rfl⟩ dX1_run_173 ?_
          refine f_1_25 (pc := 174) hk (rfl) dX1_run_174 (fun x15 => ?_)
          refine j_isub (pc := 177) hk dX1_run_177 ?_
          refine j_iload (pc := 178) hk 6 rfl dX1_run_178 ?_
          refine j_callSi (pc := 180) hk [fk_r g 36, .int (0 : Int32), .int x14, .int (p3 - x15), .int (p4 + (1 : Int32))] [.int x12] rfl (fun l o hq9 => hrec (0 : Int32) x14 (p3 - x15) (p4 + (1 : Int32)) st13 l o hq9) yv_X1_run ml_1_59 rfl (Nat.le_of_ble_eq_true rfl) (by omega) (by omega) dX1_run_180 (fun x16 st17 => ?_)
          refine j_ixor (pc := 183) hk dX1_run_183 ?_
          exact j_iret (pc := 184) hk dX1_run_184
        · refine j_case (pc := 34) hk (fun n18 => ?_) (fun n18 => ?_)
          · refine j_lsw (off := 151) (tgt := 185) (pc := 34) hk (by decide) (by rw [n18]; decide) (by decide) dX1_run_34 ?_
            refine j_aload_n (pc := 185) hk 0 rfl ⟨_, rfl⟩ dX1_run_185 ?_
            refine j_iconst (pc := 186) hk dX1_run_186 (v := 0) (by decide) ?_
            refine j_iconst (pc := 187) hk dX1_run_187 (v := 0) (by decide) ?_
            refine j_iload_n (pc := 188) hk 3 rfl dX1_run_188 ?_
            refine j_iload (pc := 189) hk 6 rfl dX1_run_189 ?_
            refine j_callSi (pc := 191) hk [fk_r g 36, .int (0 : Int32), .int (0 : Int32), .int p3, .int (p4 + (1 : Int32))] [] rfl (fun l o hq9 => hrec (0 : Int32) (0 : Int32) p3 (p4 + (1 : Int32)) st3 l o hq9) yv_X1_run ml_1_59 rfl (Nat.le_of_ble_eq_true rfl) (by omega) (by omega) dX1_run_191 (fun x19 st20 => ?_)
            refine j_aload_n (pc := 194) hk 0 rfl ⟨_, rfl⟩ dX1_run_194 ?_
            refine f_1_25 (pc := 195) hk (rfl) dX1_run_195 (fun x21 => ?_)
            refine j_iadd (pc := 198) hk dX1_run_198 ?_
            exact j_iret (pc := 199) hk dX1_run_199
          · refine j_case (pc := 34) hk (fun n22 => ?_) (fun n22 => ?_)
            · refine j_lsw (off := 166) (tgt := 200) (pc := 34) hk (by decide) (by rw [n22]; decide) (by decide) dX1_run_34 ?_
              refine j_aload_n (pc := 200) hk 0 rfl ⟨_, rfl⟩ dX1_run_200 ?_
              refine j_iconst (pc := 201) hk dX1_run_201 (v := 1) (by decide) ?_
              refine j_iconst (pc := 202) hk dX1_run_202 (v := 0) (by decide) ?_
              refine j_iload_n (pc := 203) hk 3 rfl dX1_run_203 ?_
              refine j_iload (pc := 204) hk 6 rfl dX1_run_204 ?_
              refine j_callSi (pc := 206) hk [fk_r g 36, .int (1 : Int32), .int (0 : Int32), .int p3, .int (p4 + (1 : Int32))] [] rfl (fun l o hq9 => hrec (1 : Int32) (0 : Int32) p3 (p4 + (1 : Int32)) st3 l o hq9) yv_X1_run ml_1_59 rfl (Nat.le_of_ble_eq_true rfl) (by omega) (by omega) dX1_run_206 (fun x23 st24 => ?_)
              refine j_iconst (pc := 209) hk dX1_run_209 (v := 3) (by decide) ?_
              refine j_imul (pc := 210) hk dX1_run_210 ?_
              exact j_iret (pc := 211) hk dX1_run_211
            · refine j_case (pc := 34) hk (fun n25 => ?_) (fun n25 => ?_)
              · refine j_lsw (off := 178) (tgt := 212) (pc := 34) hk (by decide) (by rw [n25]; decide) (by decide) dX1_run_34 ?_
                refine j_aload_n (pc := 212) hk 0 rfl ⟨_, rfl⟩ dX1_run_212 ?_
                refine j_iconst (pc := 213) hk dX1_run_213 (v := 0) (by decide) ?_
                refine j_iconst (pc := 214) hk dX1_run_214 (v := 1) (by decide) ?_
                refine j_iload_n (pc := 215) hk 3 rfl dX1_run_215 ?_
                refine j_iconst (pc := 216) hk dX1_run_216 (v := 1) (by decide) ?_
                refine j_iadd (pc := 217) hk dX1_run_217 ?_
                refine j_iload (pc := 218) hk 6 rfl dX1_run_218 ?_
                refine j_callSi (pc := 220) hk [fk_r g 36, .int (0 : Int32), .int (1 : Int32), .int (p3 + (1 : Int32)), .int (p4 + (1 : Int32))] [] rfl (fun l o hq9 => hrec (0 : Int32) (1 : Int32) (p3 + (1 : Int32)) (p4 + (1 : Int32)) st3 l o hq9) yv_X1_run ml_1_59 rfl (Nat.le_of_ble_eq_true rfl) (by omega) (by omega) dX1_run_220 (fun x26 st27 => ?_)
                exact j_iret (pc := 223) hk dX1_run_223
              · refine j_case (pc := 34) hk (fun n28 => ?_) (fun n28 => ?_)
                · refine j_lsw (off := 190) (tgt := 224) (pc := 34) hk (by decide) (by rw [n28]; decide) (by decide) dX1_run_34 ?_
                  refine j_aload_n (pc := 224) hk 0 rfl ⟨_, rfl⟩ dX1_run_224 ?_
                  refine j_iconst (pc := 225) hk dX1_run_225 (v := 2) (by decide) ?_
                  refine j_iconst (pc := 226) hk dX1_run_226 (v := 0) (by decide) ?_
                  refine j_iload_n (pc := 227) hk 3 rfl dX1_run_227 ?_
                  refine j_iload (pc := 228) hk 6 rfl dX1_run_228 ?_
                  refine j_callSi (pc := 230) hk [fk_r g 36, .int (2 : Int32), .int (0 : Int32), .int p3, .int (p4 + (1 : Int32))] [] rfl (fun l o hq9 => hrec (2 : Int32) (0 : Int32) p3 (p4 + (1 : Int32)) st3 l o hq9) yv_X1_run ml_1_59 rfl (Nat.le_of_ble_eq_true rfl) (by omega) (by omega) dX1_run_230 (fun x29 st30 => ?_)
                  refine j_ineg (pc := 233) hk dX1_run_233 ?_
                  exact j_iret (pc := 234) hk dX1_run_234
                · refine j_case (pc := 34) hk (fun n31 => ?_) (fun n31 => ?_)
                  · refine j_lsw (off := 201) (tgt := 235) (pc := 34) hk (by decide) (by rw [n31]; decide) (by decide) dX1_run_34 ?_
                    refine j_aload_n (pc := 235) hk 0 rfl ⟨_, rfl⟩ dX1_run_235 ?_
                    refine j_iconst (pc := 236) hk dX1_run_236 (v := 0) (by decide) ?_
                    refine j_iconst (pc := 237) hk dX1_run_237 (v := 0) (by decide) ?_
                    refine j_iload_n (pc := 238) hk 3 rfl dX1_run_238 ?_
                    refine j_iload (pc := 239) hk 6 rfl dX1_run_239 ?_
                    refine j_callSi (pc := 241) hk [fk_r g 36, .int (0 : Int32), .int (0 : Int32), .int p3, .int (p4 + (1 : Int32))] [] rfl (fun l o hq9 => hrec (0 : Int32) (0 : Int32) p3 (p4 + (1 : Int32)) st3 l o hq9) yv_X1_run ml_1_59 rfl (Nat.le_of_ble_eq_true rfl) (by omega) (by omega) dX1_run_241 (fun x32 st33 => ?_)
                    refine j_aload_n (pc := 244) hk 0 rfl ⟨_, rfl⟩ dX1_run_244 ?_
                    refine f_1_22 (pc := 245) hk (rfl) dX1_run_245 (fun x34 => ?_)
                    refine j_isub (pc := 248) hk dX1_run_248 ?_
                    exact j_iret (pc := 249) hk dX1_run_249
                  · refine j_case (pc := 34) hk (fun n35 => ?_) (fun n35 => ?_)
                    · refine j_lsw (off := 216) (tgt := 250) (pc := 34) hk (by decide) (by rw [n35]; decide) (by decide) dX1_run_34 ?_
                      refine j_aload_n (pc := 250) hk 0 rfl ⟨_, rfl⟩ dX1_run_250 ?_
                      refine j_iconst (pc := 251) hk dX1_run_251 (v := 2) (by decide) ?_
                      refine j_iconst (pc := 252) hk dX1_run_252 (v := 2) (by decide) ?_
                      refine j_iload_n (pc := 253) hk 3 rfl dX1_run_253 ?_
                      refine j_iload (pc := 254) hk 6 rfl dX1_run_254 ?_
                      refine j_callSi (pc := 256) hk [fk_r g 36, .int (2 : Int32), .int (2 : Int32), .int p3, .int (p4 + (1 : Int32))] [] rfl (fun l o hq9 => hrec (2 : Int32) (2 : Int32) p3 (p4 + (1 : Int32)) st3 l o hq9) yv_X1_run ml_1_59 rfl (Nat.le_of_ble_eq_true rfl) (by omega) (by omega) dX1_run_256 (fun x36 st37 => ?_)
                      refine j_iconst (pc := 259) hk dX1_run_259 (v := 5) (by decide) ?_
                      refine j_ixor (pc := 260) hk dX1_run_260 ?_
                      exact j_iret (pc := 261) hk dX1_run_261
                    · refine j_case (pc := 34) hk (fun n38 => ?_) (fun n38 => ?_)
                      · refine j_lsw (off := 228) (tgt := 262) (pc := 34) hk (by decide) (by rw [n38]; decide) (by decide) dX1_run_34 ?_
                        refine j_aload_n (pc := 262) hk 0 rfl ⟨_, rfl⟩ dX1_run_262 ?_
                        refine j_iconst (pc := 263) hk dX1_run_263 (v := 0) (by decide) ?_
                        refine j_iconst (pc := 264) hk dX1_run_264 (v := 3) (by decide) ?_
                        refine j_iload_n (pc := 265) hk 3 rfl dX1_run_265 ?_
                        refine j_iload (pc := 266) hk 6 rfl dX1_run_266 ?_
                        refine j_callSi (pc := 268) hk [fk_r g 36, .int (0 : Int32), .int (3 : Int32), .int p3, .int (p4 + (1 : Int32))] [] rfl (fun l o hq9 => hrec (0 : Int32) (3 : Int32) p3 (p4 + (1 : Int32)) st3 l o hq9) yv_X1_run ml_1_59 rfl (Nat.le_of_ble_eq_true rfl) (by omega) (by omega) dX1_run_268 (fun x39 st40 => ?_)
                        refine j_iconst (pc := 271) hk dX1_run_271 (v := 2) (by decide) ?_
                        refine j_imul (pc := 272) hk dX1_run_272 ?_
                        exact j_iret (pc := 273) hk dX1_run_273
                      · refine j_case (pc := 34) hk (fun n41 => ?_) (fun n41 => ?_)
                        · refine j_lsw (off := 240) (tgt := 274) (pc := 34) hk (by decide) (by rw [n41]; decide) (by decide) dX1_run_34 ?_
                          refine j_aload_n (pc := 274) hk 0 rfl ⟨_, rfl⟩ dX1_run_274 ?_
                          refine j_iconst (pc := 275) hk dX1_run_275 (v := 1) (by decide) ?_
                          refine j_iconst (pc := 276) hk dX1_run_276 (v := 3) (by decide) ?_
                          refine j_iload_n (pc := 277) hk 3 rfl dX1_run_277 ?_
                          refine j_aload_n (pc := 278) hk 0 rfl ⟨_, rfl⟩ dX1_run_278 ?_
                          refine f_1_25 (pc := 279) hk (rfl) dX1_run_279 (fun x42 => ?_)
                          refine j_isub (pc := 282) hk dX1_run_282 ?_
                          refine j_iload (pc := 283) hk 6 rfl dX1_run_283 ?_
                          refine j_callSi (pc := 285) hk [fk_r g 36, .int (1 : Int32), .int (3 : Int32), .int (p3 - x42), .int (p4 + (1 : Int32))] [] rfl (fun l o hq9 => hrec (1 : Int32) (3 : Int32) (p3 - x42) (p4 + (1 : Int32)) st3 l o hq9) yv_X1_run ml_1_59 rfl (Nat.le_of_ble_eq_true rfl) (by omega) (by omega) dX1_run_285 (fun x43 st44 => ?_)
                          exact j_iret (pc := 288) hk dX1_run_288
                        · have mn4 := lv_neT (a := 10) n4 (by decide)
                          have mn6 := lv_neT (a := 11) n6 (by decide)
                          have mn10 := lv_neT (a := 12) n10 (by decide)
                          have mn18 := lv_neT (a := 20) n18 (by decide)
                          have mn22 := lv_neT (a := 30) n22 (by decide)
                          have mn25 := lv_neT (a := 40) n25 (by decide)
                          have mn28 := lv_neT (a := 50) n28 (by decide)
                          have mn31 := lv_neT (a := 51) n31 (by decide)
                          have mn35 := lv_neT (a := 60) n35 (by decide)
                          have mn38 := lv_neT (a := 70) n38 (by decide)
                          have mn41 := lv_neT (a := 71) n41 (by decide)
                          refine j_lsw (off := 255) (tgt := 289) (pc := 34) hk (by decide) (fk_lsw (by intro q hq; simp only [List.mem_cons, List.not_mem_nil, or_false] at hq; rcases hq with rfl | rfl | rfl | rfl | rfl | rfl | rfl | rfl | rfl | rfl | rfl <;> simpa using by assumption)) (by decide) dX1_run_34 ?_
                          refine j_iconst (pc := 289) hk dX1_run_289 (v := 0) (by decide) ?_
                          exact j_iret (pc := 290) hk dX1_run_290
  · refine j_iconst (pc := 11) hk dX1_run_11 (v := 0) (by decide) ?_
    exact j_iret (pc := 12) hk dX1_run_12
def F1_run (p1 : Int32) (p2 : Int32) (p3 : Int32) (p4 : Int32) (st : fkS) : Option (Int32 × fkS) := fk_lp4 G1_run 12 p1 p2 p3 p4 st
theorem CN1_run {g : fkG} (n : Nat) : ∀ (p1 : Int32) (p2 : Int32) (p3 : Int32) (p4 : Int32) (st : fkS) (l : Launch) (o : Int32 × fkS), fk_lp4 G1_run n p1 p2 p3 p4 st = some o → fk_C wC yX1_run cX1_run 7 (some (.int)) (n + 1) (n * 26 + 24) l g [fk_r g 36, .int p1, .int p2, .int p3, .int p4] st (fk_eI o.1) o.2 := by
  induction n with
  | zero =>
    intro p1 p2 p3 p4 st l o h
    exact absurd h (by simp [fk_lp4])
  | succ n ih =>
    intro p1 p2 p3 p4 st l o h
    exact CG1_run (fk_lp4 G1_run n) ih p1 p2 p3 p4 st l o h
theorem C1_run (p1 : Int32) (p2 : Int32) (p3 : Int32) (p4 : Int32) (st : fkS) {g : fkG} (l : Launch) (o : Int32 × fkS) (h : F1_run p1 p2 p3 p4 st = some o) : fk_C wC yX1_run cX1_run 7 (some (.int)) 13 336 l g [fk_r g 36, .int p1, .int p2, .int p3, .int p4] st (fk_eI o.1) o.2 := CN1_run 12 p1 p2 p3 p4 st l o h
theorem dX5_whole_0 : decode cX5_whole 0 = .ok (.iload_n 1, 1) := by decide +kernel
theorem dX5_whole_1 : decode cX5_whole 1 = .ok (.ifCond .lt 11, 3) := by decide +kernel
theorem dX5_whole_4 : decode cX5_whole 4 = .ok (.iload_n 1, 1) := by decide +kernel
theorem dX5_whole_5 : decode cX5_whole 5 = .ok (.aload_n 0, 1) := by decide +kernel
theorem dX5_whole_6 : decode cX5_whole 6 = .ok (.getfield 21, 3) := by decide +kernel
theorem dX5_whole_9 : decode cX5_whole 9 = .ok (.if_icmp .lt 7, 3) := by decide +kernel
theorem dX5_whole_12 : decode cX5_whole 12 = .ok (.lconst 0, 1) := by decide +kernel
theorem dX5_whole_13 : decode cX5_whole 13 = .ok (.goto 9, 3) := by decide +kernel
theorem dX5_whole_16 : decode cX5_whole 16 = .ok (.aload_n 0, 1) := by decide +kernel
theorem dX5_whole_17 : decode cX5_whole 17 = .ok (.getfield 24, 3) := by decide +kernel
theorem dX5_whole_20 : decode cX5_whole 20 = .ok (.iload_n 1, 1) := by decide +kernel
theorem dX5_whole_21 : decode cX5_whole 21 = .ok (.laload, 1) := by decide +kernel
theorem dX5_whole_22 : decode cX5_whole 22 = .ok (.lreturn, 1) := by decide +kernel
def B5_whole_12 (h : Nat) (st : fkS) : Option (Int64 × fkS) :=
some ((0 : Int64), st)
set_option maxHeartbeats 1000000 in
set_option maxRecDepth 20000 in
theorem T5_whole_12 {g : fkG} {k : fkK} (h : Nat) (hh : kdC h = 5) (hk : fk_ok wC g k RX5 cX5_whole 2 (some (.long)) 0 0) : ∀ (st : fkS), fk_J wC g fk_eL k 12 [] [] st (B5_whole_12 h st) := by
  intro st
  unfold B5_whole_12
  refine j_lconst (pc := 12) hk dX5_whole_12 (v := 0) (by decide) ?_
  refine j_goto (tgt := 22) (pc := 13) hk (by decide) dX5_whole_13 ?_
  exact j_lret (pc := 22) hk dX5_whole_22
def F5_whole (h : Nat) (p1 : Int32) (st : fkS) : Option (Int64 × fkS) :=
if p1 < 0 then
(B5_whole_12 h st)
else
(fk_let (gI st 103 h) <| fun x1 =>
if p1 < x1 then
(fk_chk (fk_in p1 160) <| fk_let (gL st (h + 8) p1.toNatClampNeg) <| fun x2 =>
some (x2, st))
else
(B5_whole_12 h st))
set_option maxHeartbeats 1000000 in
set_option maxRecDepth 20000 in
theorem C5_whole (h : Nat) (hh : kdC h = 5) (p1 : Int32) (st : fkS) {g : fkG} (l : Launch) (o : Int64 × fkS) (hF : F5_whole h p1 st = some o) : fk_C wC yX5_whole cX5_whole 2 (some (.long)) 0 0 l g [fk_r g h, .int p1] st (fk_eL o.1) o.2 := by
  refine fk_begin rfl (Nat.le_of_ble_eq_true rfl) (fun k hk => ?_) o hF
  have hk : fk_ok wC g k RX5 cX5_whole 2 (some (.long)) 0 0 := hk
  show fk_J wC g fk_eL k 0 [(0, fk_r g h), (1, .int p1)] [] st (F5_whole h p1 st)
  unfold F5_whole
  refine j_iload_n (pc := 0) hk 1 rfl dX5_whole_0 ?_
  refine j_if_lt (tgt := 12) (pc := 1) hk (by decide) dX5_whole_1 (fun _ => ?_) (fun _ => ?_)
  · exact j_sub hk [] rfl (T5_whole_12 h hh hk st)
  · refine j_iload_n (pc := 4) hk 1 rfl dX5_whole_4 ?_
    refine j_aload_n (pc := 5) hk 0 rfl ⟨_, rfl⟩ dX5_whole_5 ?_
    refine f_5_21 (pc := 6) hk (hh) dX5_whole_6 (fun x1 => ?_)
    refine j_icmp_lt (tgt := 16) (pc := 9) hk (by decide) dX5_whole_9 (fun _ => ?_) (fun _ => ?_)
    · refine j_aload_n (pc := 16) hk 0 rfl ⟨_, rfl⟩ dX5_whole_16 ?_
      refine f_5_24 (pc := 17) hk (hh) dX5_whole_17 ?_
      refine j_iload_n (pc := 20) hk 1 rfl dX5_whole_20 ?_
      refine a_lload (pc := 21) hk (isL_5_4 (hh)) dX5_whole_21 (fun x2 => ?_)
      exact j_lret (pc := 22) hk dX5_whole_22
    · exact j_sub hk [] rfl (T5_whole_12 h hh hk st)
theorem dX5_number_0 : decode cX5_number 0 = .ok (.aload_n 0, 1) := by decide +kernel
theorem dX5_number_1 : decode cX5_number 1 = .ok (.iload_n 1, 1) := by decide +kernel
theorem dX5_number_2 : decode cX5_number 2 = .ok (.invokevirtual 37, 3) := by decide +kernel
theorem dX5_number_5 : decode cX5_number 5 = .ok (.l2i, 1) := by decide +kernel
theorem dX5_number_6 : decode cX5_number 6 = .ok (.ireturn, 1) := by decide +kernel
def F5_number (h : Nat) (p1 : Int32) (st : fkS) : Option (Int32 × fkS) :=
fk_bind (F5_whole h p1 st) <| fun x1 st2 =>
some (x1.toInt32, st2)
set_option maxHeartbeats 1000000 in
set_option maxRecDepth 20000 in
theorem C5_number (h : Nat) (hh : kdC h = 5) (p1 : Int32) (st : fkS) {g : fkG} (l : Launch) (o : Int32 × fkS) (hF : F5_number h p1 st = some o) : fk_C wC yX5_number cX5_number 2 (some (.int)) 1 21 l g [fk_r g h, .int p1] st (fk_eI o.1) o.2 := by
  refine fk_begin rfl (Nat.le_of_ble_eq_true rfl) (fun k hk => ?_) o hF
  have hk : fk_ok wC g k RX5 cX5_number 2 (some (.int)) 1 21 := hk
  show fk_J wC g fk_eI k 0 [(0, fk_r g h), (1, .int p1)] [] st (F5_number h p1 st)
  unfold F5_number
  refine j_aload_n (pc := 0) hk 0 rfl ⟨_, rfl⟩ dX5_number_0 ?_
  refine j_iload_n (pc := 1) hk 1 rfl dX5_number_1 ?_
  refine j_callVl (pc := 2) hk [.int p1] [] rfl (fun l o hq9 => C5_whole h (hh) p1 st l o hq9) (rcv_5 (hh)) yv_X5_whole ml_5_37 rfl (Nat.le_of_ble_eq_true rfl) (Nat.le_of_ble_eq_true rfl) (Nat.le_of_ble_eq_true rfl) dX5_number_2 (fun x1 st2 => ?_)
  refine j_l2i (pc := 5) hk dX5_number_5 ?_
  exact j_iret (pc := 6) hk dX5_number_6
theorem dX2_takeWishes_0 : decode cX2_takeWishes 0 = .ok (.aload_n 1, 1) := by decide +kernel
theorem dX2_takeWishes_1 : decode cX2_takeWishes 1 = .ok (.getfield 28, 3) := by decide +kernel
theorem dX2_takeWishes_4 : decode cX2_takeWishes 4 = .ok (.bipush 7, 2) := by decide +kernel
theorem dX2_takeWishes_6 : decode cX2_takeWishes 6 = .ok (.if_icmp .le 5, 3) := by decide +kernel
theorem dX2_takeWishes_9 : decode cX2_takeWishes 9 = .ok (.iconst 0, 1) := by decide +kernel
theorem dX2_takeWishes_10 : decode cX2_takeWishes 10 = .ok (.ireturn, 1) := by decide +kernel
theorem dX2_takeWishes_11 : decode cX2_takeWishes 11 = .ok (.aload_n 0, 1) := by decide +kernel
theorem dX2_takeWishes_12 : decode cX2_takeWishes 12 = .ok (.aload_n 1, 1) := by decide +kernel
theorem dX2_takeWishes_13 : decode cX2_takeWishes 13 = .ok (.getfield 28, 3) := by decide +kernel
theorem dX2_takeWishes_16 : decode cX2_takeWishes 16 = .ok (.putfield 9, 3) := by decide +kernel
theorem dX2_takeWishes_19 : decode cX2_takeWishes 19 = .ok (.iconst 0, 1) := by decide +kernel
theorem dX2_takeWishes_20 : decode cX2_takeWishes 20 = .ok (.istore_n 2, 1) := by decide +kernel
theorem dX2_takeWishes_21 : decode cX2_takeWishes 21 = .ok (.iload_n 2, 1) := by decide +kernel
theorem dX2_takeWishes_22 : decode cX2_takeWishes 22 = .ok (.aload_n 0, 1) := by decide +kernel
theorem dX2_takeWishes_23 : decode cX2_takeWishes 23 = .ok (.getfield 9, 3) := by decide +kernel
theorem dX2_takeWishes_26 : decode cX2_takeWishes 26 = .ok (.if_icmp .ge 43, 3) := by decide +kernel
theorem dX2_takeWishes_29 : decode cX2_takeWishes 29 = .ok (.iload_n 2, 1) := by decide +kernel
theorem dX2_takeWishes_30 : decode cX2_takeWishes 30 = .ok (.aload_n 0, 1) := by decide +kernel
theorem dX2_takeWishes_31 : decode cX2_takeWishes 31 = .ok (.getfield 18, 3) := by decide +kernel
theorem dX2_takeWishes_34 : decode cX2_takeWishes 34 = .ok (.arraylength, 1) := by decide +kernel
theorem dX2_takeWishes_35 : decode cX2_takeWishes 35 = .ok (.if_icmp .ge 34, 3) := by decide +kernel
theorem dX2_takeWishes_38 : decode cX2_takeWishes 38 = .ok (.aload_n 1, 1) := by decide +kernel
theorem dX2_takeWishes_39 : decode cX2_takeWishes 39 = .ok (.iload_n 2, 1) := by decide +kernel
theorem dX2_takeWishes_40 : decode cX2_takeWishes 40 = .ok (.invokevirtual 33, 3) := by decide +kernel
theorem dX2_takeWishes_43 : decode cX2_takeWishes 43 = .ok (.istore_n 3, 1) := by decide +kernel
theorem dX2_takeWishes_44 : decode cX2_takeWishes 44 = .ok (.iload_n 3, 1) := by decide +kernel
theorem dX2_takeWishes_45 : decode cX2_takeWishes 45 = .ok (.ifCond .lt 9, 3) := by decide +kernel
theorem dX2_takeWishes_48 : decode cX2_takeWishes 48 = .ok (.iload_n 3, 1) := by decide +kernel
theorem dX2_takeWishes_49 : decode cX2_takeWishes 49 = .ok (.bipush 8, 2) := by decide +kernel
theorem dX2_takeWishes_51 : decode cX2_takeWishes 51 = .ok (.if_icmp .lt 5, 3) := by decide +kernel
theorem dX2_takeWishes_54 : decode cX2_takeWishes 54 = .ok (.iconst 0, 1) := by decide +kernel
theorem dX2_takeWishes_55 : decode cX2_takeWishes 55 = .ok (.ireturn, 1) := by decide +kernel
theorem dX2_takeWishes_56 : decode cX2_takeWishes 56 = .ok (.aload_n 0, 1) := by decide +kernel
theorem dX2_takeWishes_57 : decode cX2_takeWishes 57 = .ok (.getfield 18, 3) := by decide +kernel
theorem dX2_takeWishes_60 : decode cX2_takeWishes 60 = .ok (.iload_n 2, 1) := by decide +kernel
theorem dX2_takeWishes_61 : decode cX2_takeWishes 61 = .ok (.iload_n 3, 1) := by decide +kernel
theorem dX2_takeWishes_62 : decode cX2_takeWishes 62 = .ok (.iastore, 1) := by decide +kernel
theorem dX2_takeWishes_63 : decode cX2_takeWishes 63 = .ok (.iinc 2 1, 3) := by decide +kernel
theorem dX2_takeWishes_66 : decode cX2_takeWishes 66 = .ok (.goto (-45), 3) := by decide +kernel
theorem dX2_takeWishes_69 : decode cX2_takeWishes 69 = .ok (.iconst 1, 1) := by decide +kernel
theorem dX2_takeWishes_70 : decode cX2_takeWishes 70 = .ok (.ireturn, 1) := by decide +kernel
def B2_takeWishes_21 (o1 : Nat) (k21 : Int32 → fkS → Option (Int32 × fkS)) (v2 : Int32) (st : fkS) : Option (Int32 × fkS) :=
fk_let (gI st 40 44) <| fun x4 =>
if x4 ≤ v2 then
(some ((1 : Int32), st))
else
(if (7 : Int32) ≤ v2 then
(some ((1 : Int32), st))
else
(fk_bind (F5_number o1 v2 st) <| fun x5 st6 =>
if x5 < 0 then
(some ((0 : Int32), st6))
else
(if x5 < (8 : Int32) then
(fk_chk (fk_in v2 7) <| fk_let (sA st6 45 v2.toNatClampNeg x5) <| fun st7 =>
k21 (v2 + (1 : Int32)) st7)
else
(some ((0 : Int32), st6)))))
set_option maxHeartbeats 1000000 in
set_option maxRecDepth 20000 in
theorem T2_takeWishes_21 {g : fkG} {k : fkK} (o1 : Nat) (ho1 : kdC o1 = 5) (hk : fk_ok wC g k RX2 cX2_takeWishes 4 (some (.boolean)) 2 42) (k21 : Int32 → fkS → Option (Int32 × fkS)) (H21 : ∀ (v2 : Int32) (st : fkS), fk_J wC g fk_eI k 21 [(0, fk_r g 44), (1, fk_r g o1), (2, .int v2)] [] st (k21 v2 st)) : ∀ (v2 : Int32) (st : fkS), fk_J wC g fk_eI k 21 [(0, fk_r g 44), (1, fk_r g o1), (2, .int v2)] [] st (B2_takeWishes_21 o1 k21 v2 st) := by
  intro v2 st
  unfold B2_takeWishes_21
  refine j_iload_n (pc := 21) hk 2 rfl dX2_takeWishes_21 ?_
  refine j_aload_n (pc := 22) hk 0 rfl ⟨_, rfl⟩ dX2_takeWishes_22 ?_
  refine f_2_9 (pc := 23) hk (rfl) dX2_takeWishes_23 (fun x4 => ?_)
  refine j_icmp_ge (tgt := 69) (pc := 26) hk (by decide) dX2_takeWishes_26 (fun _ => ?_) (fun _ => ?_)
  · refine j_iconst (pc := 69) hk dX2_takeWishes_69 (v := 1) (by decide) ?_
    exact j_zret (pc := 70) hk rfl dX2_takeWishes_70
  · refine j_iload_n (pc := 29) hk 2 rfl dX2_takeWishes_29 ?_
    refine j_aload_n (pc := 30) hk 0 rfl ⟨_, rfl⟩ dX2_takeWishes_30 ?_
    refine f_2_18 (pc := 31) hk (rfl) dX2_takeWishes_31 ?_
    refine a_ilen (pc := 34) hk (isI_2_2 (rfl)) (v := 7) (by decide) dX2_takeWishes_34 ?_
    refine j_icmp_ge (tgt := 69) (pc := 35) hk (by decide) dX2_takeWishes_35 (fun _ => ?_) (fun _ => ?_)
    · refine j_iconst (pc := 69) hk dX2_takeWishes_69 (v := 1) (by decide) ?_
      exact j_zret (pc := 70) hk rfl dX2_takeWishes_70
    · refine j_aload_n (pc := 38) hk 1 rfl ⟨_, rfl⟩ dX2_takeWishes_38 ?_
      refine j_iload_n (pc := 39) hk 2 rfl dX2_takeWishes_39 ?_
      refine j_callVNi (pc := 40) hk [.int v2] [] rfl (fun l o hq9 => C5_number o1 (ho1) v2 st l o hq9) (rcv_5 (ho1)) yv_X5_number ml_2_33 rfl (Nat.le_of_ble_eq_true rfl) (Nat.le_of_ble_eq_true rfl) (Nat.le_of_ble_eq_true rfl) dX2_takeWishes_40 (fun x5 st6 => ?_)
      refine j_istore_n (lv' := ((3, .int x5) :: [(0, fk_r g 44), (1, fk_r g o1), (2, .int v2)])) (pc := 43) hk rfl (by decide) rfl dX2_takeWishes_43 ?_
      refine j_sub hk (lv' := [(0, fk_r g 44), (1, fk_r g o1), (2, .int v2), (3, .int x5)]) [1, 2, 3, 0] rfl ?_
      refine j_iload_n (pc := 44) hk 3 rfl dX2_takeWishes_44 ?_
      refine j_if_lt (tgt := 54) (pc := 45) hk (by decide) dX2_takeWishes_45 (fun _ => ?_) (fun _ => ?_)
      · refine j_iconst (pc := 54) hk dX2_takeWishes_54 (v := 0) (by decide) ?_
        exact j_zret (pc := 55) hk rfl dX2_takeWishes_55
      · refine j_iload_n (pc := 48) hk 3 rfl dX2_takeWishes_48 ?_
        refine j_bipush (pc := 49) hk dX2_takeWishes_49 (v := 8) (by decide) ?_
        refine j_icmp_lt (tgt := 56) (pc := 51) hk (by decide) dX2_takeWishes_51 (fun _ => ?_) (fun _ => ?_)
        · refine j_aload_n (pc := 56) hk 0 rfl ⟨_, rfl⟩ dX2_takeWishes_56 ?_
          refine f_2_18 (pc := 57) hk (rfl) dX2_takeWishes_57 ?_
          refine j_iload_n (pc := 60) hk 2 rfl dX2_takeWishes_60 ?_
          refine j_iload_n (pc := 61) hk 3 rfl dX2_takeWishes_61 ?_
          refine a_istore (pc := 62) hk (isI_2_2 (rfl)) dX2_takeWishes_62 (fun st7 => ?_)
          refine j_iinc (dd := (1 : Int32)) (lv' := ((2, .int (v2 + (1 : Int32))) :: [(0, fk_r g 44), (1, fk_r g o1), (3, .int x5)])) (pc := 63) hk 2 rfl (by decide) (by decide) rfl dX2_takeWishes_63 ?_
          refine j_sub hk (lv' := [(0, fk_r g 44), (1, fk_r g o1), (2, .int (v2 + (1 : Int32))), (3, .int x5)]) [1, 2, 0, 3] rfl ?_
          refine j_goto (tgt := 21) (pc := 66) hk (by decide) dX2_takeWishes_66 ?_
          exact j_sub hk [0, 1, 2] rfl (H21 (v2 + (1 : Int32)) st7)
        · refine j_iconst (pc := 54) hk dX2_takeWishes_54 (v := 0) (by decide) ?_
          exact j_zret (pc := 55) hk rfl dX2_takeWishes_55
set_option maxHeartbeats 1000000 in
set_option maxRecDepth 20000 in
theorem L2_takeWishes_21 {g : fkG} {k : fkK} (o1 : Nat) (ho1 : kdC o1 = 5) (hk : fk_ok wC g k RX2 cX2_takeWishes 4 (some (.boolean)) 2 42) (fu : Nat) : ∀ (v2 : Int32) (st : fkS), fk_J wC g fk_eI k 21 [(0, fk_r g 44), (1, fk_r g o1), (2, .int v2)] [] st (fk_lp1 (B2_takeWishes_21 o1) fu v2 st) := by
  induction fu with
  | zero =>
    intro v2 st
    exact j_none hk
  | succ fu ih =>
    exact T2_takeWishes_21 o1 ho1 hk _ ih
def F2_takeWishes (o1 : Nat) (st : fkS) : Option (Int32 × fkS) :=
fk_let (gI st 103 o1) <| fun x1 =>
if x1 ≤ (7 : Int32) then
(fk_let (gI st 103 o1) <| fun x2 =>
fk_let (sI st 40 44 x2) <| fun st3 =>
fk_lp1 (B2_takeWishes_21 o1) fk_fuel (0 : Int32) st3)
else
(some ((0 : Int32), st))
set_option maxHeartbeats 1000000 in
set_option maxRecDepth 20000 in
theorem C2_takeWishes (o1 : Nat) (ho1 : kdC o1 = 5) (st : fkS) {g : fkG} (l : Launch) (o : Int32 × fkS) (hF : F2_takeWishes o1 st = some o) : fk_C wC yX2_takeWishes cX2_takeWishes 4 (some (.boolean)) 2 42 l g [fk_r g 44, fk_r g o1] st (fk_eI o.1) o.2 := by
  refine fk_begin rfl (Nat.le_of_ble_eq_true rfl) (fun k hk => ?_) o hF
  have hk : fk_ok wC g k RX2 cX2_takeWishes 4 (some (.boolean)) 2 42 := hk
  show fk_J wC g fk_eI k 0 [(0, fk_r g 44), (1, fk_r g o1)] [] st (F2_takeWishes o1 st)
  unfold F2_takeWishes
  refine j_aload_n (pc := 0) hk 1 rfl ⟨_, rfl⟩ dX2_takeWishes_0 ?_
  refine f_2_28 (pc := 1) hk (ho1) dX2_takeWishes_1 (fun x1 => ?_)
  refine j_bipush (pc := 4) hk dX2_takeWishes_4 (v := 7) (by decide) ?_
  refine j_icmp_le (tgt := 11) (pc := 6) hk (by decide) dX2_takeWishes_6 (fun _ => ?_) (fun _ => ?_)
  · refine j_aload_n (pc := 11) hk 0 rfl ⟨_, rfl⟩ dX2_takeWishes_11 ?_
    refine j_aload_n (pc := 12) hk 1 rfl ⟨_, rfl⟩ dX2_takeWishes_12 ?_
    refine f_2_28 (pc := 13) hk (ho1) dX2_takeWishes_13 (fun x2 => ?_)
    refine p_2_9 (pc := 16) hk (rfl) dX2_takeWishes_16 (fun st3 => ?_)
    refine j_iconst (pc := 19) hk dX2_takeWishes_19 (v := 0) (by decide) ?_
    refine j_istore_n (lv' := ((2, .int (0 : Int32)) :: [(0, fk_r g 44), (1, fk_r g o1)])) (pc := 20) hk rfl (by decide) rfl dX2_takeWishes_20 ?_
    refine j_sub hk (lv' := [(0, fk_r g 44), (1, fk_r g o1), (2, .int (0 : Int32))]) [1, 2, 0] rfl ?_
    exact j_sub hk [0, 1, 2] rfl (L2_takeWishes_21 o1 ho1 hk fk_fuel (0 : Int32) st3)
  · refine j_iconst (pc := 9) hk dX2_takeWishes_9 (v := 0) (by decide) ?_
    exact j_zret (pc := 10) hk rfl dX2_takeWishes_10
theorem dX2_bringsOf_0 : decode cX2_bringsOf 0 = .ok (.iload_n 1, 1) := by decide +kernel
theorem dX2_bringsOf_1 : decode cX2_bringsOf 1 = .ok (.ifCond .lt 19, 3) := by decide +kernel
theorem dX2_bringsOf_4 : decode cX2_bringsOf 4 = .ok (.iload_n 1, 1) := by decide +kernel
theorem dX2_bringsOf_5 : decode cX2_bringsOf 5 = .ok (.aload_n 0, 1) := by decide +kernel
theorem dX2_bringsOf_6 : decode cX2_bringsOf 6 = .ok (.getfield 25, 3) := by decide +kernel
theorem dX2_bringsOf_9 : decode cX2_bringsOf 9 = .ok (.arraylength, 1) := by decide +kernel
theorem dX2_bringsOf_10 : decode cX2_bringsOf 10 = .ok (.if_icmp .ge 10, 3) := by decide +kernel
theorem dX2_bringsOf_13 : decode cX2_bringsOf 13 = .ok (.aload_n 0, 1) := by decide +kernel
theorem dX2_bringsOf_14 : decode cX2_bringsOf 14 = .ok (.getfield 25, 3) := by decide +kernel
theorem dX2_bringsOf_17 : decode cX2_bringsOf 17 = .ok (.iload_n 1, 1) := by decide +kernel
theorem dX2_bringsOf_18 : decode cX2_bringsOf 18 = .ok (.iload_n 2, 1) := by decide +kernel
theorem dX2_bringsOf_19 : decode cX2_bringsOf 19 = .ok (.iastore, 1) := by decide +kernel
theorem dX2_bringsOf_20 : decode cX2_bringsOf 20 = .ok (.return_, 1) := by decide +kernel
def F2_bringsOf (p1 : Int32) (p2 : Int32) (st : fkS) : Option (Unit × fkS) :=
if p1 < 0 then
(some ((), st))
else
(if (7 : Int32) ≤ p1 then
(some ((), st))
else
(fk_chk (fk_in p1 7) <| fk_let (sA st 47 p1.toNatClampNeg p2) <| fun st1 =>
some ((), st1)))
set_option maxHeartbeats 1000000 in
set_option maxRecDepth 20000 in
theorem C2_bringsOf (p1 : Int32) (p2 : Int32) (st : fkS) {g : fkG} (l : Launch) (o : Unit × fkS) (hF : F2_bringsOf p1 p2 st = some o) : fk_C wC yX2_bringsOf cX2_bringsOf 3 none 0 0 l g [fk_r g 44, .int p1, .int p2] st (fk_eU o.1) o.2 := by
  refine fk_begin rfl (Nat.le_of_ble_eq_true rfl) (fun k hk => ?_) o hF
  have hk : fk_ok wC g k RX2 cX2_bringsOf 3 none 0 0 := hk
  show fk_J wC g fk_eU k 0 [(0, fk_r g 44), (1, .int p1), (2, .int p2)] [] st (F2_bringsOf p1 p2 st)
  unfold F2_bringsOf
  refine j_iload_n (pc := 0) hk 1 rfl dX2_bringsOf_0 ?_
  refine j_if_lt (tgt := 20) (pc := 1) hk (by decide) dX2_bringsOf_1 (fun _ => ?_) (fun _ => ?_)
  · exact j_vret (pc := 20) hk dX2_bringsOf_20
  · refine j_iload_n (pc := 4) hk 1 rfl dX2_bringsOf_4 ?_
    refine j_aload_n (pc := 5) hk 0 rfl ⟨_, rfl⟩ dX2_bringsOf_5 ?_
    refine f_2_25 (pc := 6) hk (rfl) dX2_bringsOf_6 ?_
    refine a_ilen (pc := 9) hk (isI_2_4 (rfl)) (v := 7) (by decide) dX2_bringsOf_9 ?_
    refine j_icmp_ge (tgt := 20) (pc := 10) hk (by decide) dX2_bringsOf_10 (fun _ => ?_) (fun _ => ?_)
    · exact j_vret (pc := 20) hk dX2_bringsOf_20
    · refine j_aload_n (pc := 13) hk 0 rfl ⟨_, rfl⟩ dX2_bringsOf_13 ?_
      refine f_2_25 (pc := 14) hk (rfl) dX2_bringsOf_14 ?_
      refine j_iload_n (pc := 17) hk 1 rfl dX2_bringsOf_17 ?_
      refine j_iload_n (pc := 18) hk 2 rfl dX2_bringsOf_18 ?_
      refine a_istore (pc := 19) hk (isI_2_4 (rfl)) dX2_bringsOf_19 (fun st1 => ?_)
      exact j_vret (pc := 20) hk dX2_bringsOf_20
theorem dX2_firstLeft_0 : decode cX2_firstLeft 0 = .ok (.iconst 0, 1) := by decide +kernel
theorem dX2_firstLeft_1 : decode cX2_firstLeft 1 = .ok (.istore_n 3, 1) := by decide +kernel
theorem dX2_firstLeft_2 : decode cX2_firstLeft 2 = .ok (.iload_n 3, 1) := by decide +kernel
theorem dX2_firstLeft_3 : decode cX2_firstLeft 3 = .ok (.iload_n 2, 1) := by decide +kernel
theorem dX2_firstLeft_4 : decode cX2_firstLeft 4 = .ok (.if_icmp .ge 30, 3) := by decide +kernel
theorem dX2_firstLeft_7 : decode cX2_firstLeft 7 = .ok (.iload_n 3, 1) := by decide +kernel
theorem dX2_firstLeft_8 : decode cX2_firstLeft 8 = .ok (.aload_n 0, 1) := by decide +kernel
theorem dX2_firstLeft_9 : decode cX2_firstLeft 9 = .ok (.getfield 25, 3) := by decide +kernel
theorem dX2_firstLeft_12 : decode cX2_firstLeft 12 = .ok (.arraylength, 1) := by decide +kernel
theorem dX2_firstLeft_13 : decode cX2_firstLeft 13 = .ok (.if_icmp .ge 21, 3) := by decide +kernel
theorem dX2_firstLeft_16 : decode cX2_firstLeft 16 = .ok (.aload_n 0, 1) := by decide +kernel
theorem dX2_firstLeft_17 : decode cX2_firstLeft 17 = .ok (.getfield 25, 3) := by decide +kernel
theorem dX2_firstLeft_20 : decode cX2_firstLeft 20 = .ok (.iload_n 3, 1) := by decide +kernel
theorem dX2_firstLeft_21 : decode cX2_firstLeft 21 = .ok (.iaload, 1) := by decide +kernel
theorem dX2_firstLeft_22 : decode cX2_firstLeft 22 = .ok (.iload_n 1, 1) := by decide +kernel
theorem dX2_firstLeft_23 : decode cX2_firstLeft 23 = .ok (.if_icmp .ne 5, 3) := by decide +kernel
theorem dX2_firstLeft_26 : decode cX2_firstLeft 26 = .ok (.iload_n 3, 1) := by decide +kernel
theorem dX2_firstLeft_27 : decode cX2_firstLeft 27 = .ok (.ireturn, 1) := by decide +kernel
theorem dX2_firstLeft_28 : decode cX2_firstLeft 28 = .ok (.iinc 3 1, 3) := by decide +kernel
theorem dX2_firstLeft_31 : decode cX2_firstLeft 31 = .ok (.goto (-29), 3) := by decide +kernel
theorem dX2_firstLeft_34 : decode cX2_firstLeft 34 = .ok (.iconst (-1), 1) := by decide +kernel
theorem dX2_firstLeft_35 : decode cX2_firstLeft 35 = .ok (.ireturn, 1) := by decide +kernel
def B2_firstLeft_2 (k2 : Int32 → Int32 → Int32 → fkS → Option (Int32 × fkS)) (v1 : Int32) (v2 : Int32) (v3 : Int32) (st : fkS) : Option (Int32 × fkS) :=
if v2 ≤ v3 then
(some ((-1 : Int32), st))
else
(if (7 : Int32) ≤ v3 then
(some ((-1 : Int32), st))
else
(fk_chk (fk_in v3 7) <| fk_let (gA st 47 v3.toNatClampNeg) <| fun x1 =>
if x1 = v1 then
(some (v3, st))
else
(k2 v1 v2 (v3 + (1 : Int32)) st)))
set_option maxHeartbeats 1000000 in
set_option maxRecDepth 20000 in
theorem T2_firstLeft_2 {g : fkG} {k : fkK} (hk : fk_ok wC g k RX2 cX2_firstLeft 4 (some (.int)) 0 0) (k2 : Int32 → Int32 → Int32 → fkS → Option (Int32 × fkS)) (H2 : ∀ (v1 : Int32) (v2 : Int32) (v3 : Int32) (st : fkS), fk_J wC g fk_eI k 2 [(0, fk_r g 44), (1, .int v1), (2, .int v2), (3, .int v3)] [] st (k2 v1 v2 v3 st)) : ∀ (v1 : Int32) (v2 : Int32) (v3 : Int32) (st : fkS), fk_J wC g fk_eI k 2 [(0, fk_r g 44), (1, .int v1), (2, .int v2), (3, .int v3)] [] st (B2_firstLeft_2 k2 v1 v2 v3 st) := by
  intro v1 v2 v3 st
  unfold B2_firstLeft_2
  refine j_iload_n (pc := 2) hk 3 rfl dX2_firstLeft_2 ?_
  refine j_iload_n (pc := 3) hk 2 rfl dX2_firstLeft_3 ?_
  refine j_icmp_ge (tgt := 34) (pc := 4) hk (by decide) dX2_firstLeft_4 (fun _ => ?_) (fun _ => ?_)
  · refine j_iconst (pc := 34) hk dX2_firstLeft_34 (v := -1) (by decide) ?_
    exact j_iret (pc := 35) hk dX2_firstLeft_35
  · refine j_iload_n (pc := 7) hk 3 rfl dX2_firstLeft_7 ?_
    refine j_aload_n (pc := 8) hk 0 rfl ⟨_, rfl⟩ dX2_firstLeft_8 ?_
    refine f_2_25 (pc := 9) hk (rfl) dX2_firstLeft_9 ?_
    refine a_ilen (pc := 12) hk (isI_2_4 (rfl)) (v := 7) (by decide) dX2_firstLeft_12 ?_
    refine j_icmp_ge (tgt := 34) (pc := 13) hk (by decide) dX2_firstLeft_13 (fun _ => ?_) (fun _ => ?_)
    · refine j_iconst (pc := 34) hk dX2_firstLeft_34 (v := -1) (by decide) ?_
      exact j_iret (pc := 35) hk dX2_firstLeft_35
    · refine j_aload_n (pc := 16) hk 0 rfl ⟨_, rfl⟩ dX2_firstLeft_16 ?_
      refine f_2_25 (pc := 17) hk (rfl) dX2_firstLeft_17 ?_
      refine j_iload_n (pc := 20) hk 3 rfl dX2_firstLeft_20 ?_
      refine a_iload (pc := 21) hk (isI_2_4 (rfl)) dX2_firstLeft_21 (fun x1 => ?_)
      refine j_iload_n (pc := 22) hk 1 rfl dX2_firstLeft_22 ?_
      refine j_icmp_ne (tgt := 28) (pc := 23) hk (by decide) dX2_firstLeft_23 (fun _ => ?_) (fun _ => ?_)
      · refine j_iload_n (pc := 26) hk 3 rfl dX2_firstLeft_26 ?_
        exact j_iret (pc := 27) hk dX2_firstLeft_27
      · refine j_iinc (dd := (1 : Int32)) (lv' := ((3, .int (v3 + (1 : Int32))) :: [(0, fk_r g 44), (1, .int v1), (2, .int v2)])) (pc := 28) hk 3 rfl (by decide) (by decide) rfl dX2_firstLeft_28 ?_
        refine j_sub hk (lv' := [(0, fk_r g 44), (1, .int v1), (2, .int v2), (3, .int (v3 + (1 : Int32)))]) [1, 2, 3, 0] rfl ?_
        refine j_goto (tgt := 2) (pc := 31) hk (by decide) dX2_firstLeft_31 ?_
        exact j_sub hk [0, 1, 2, 3] rfl (H2 v1 v2 (v3 + (1 : Int32)) st)
set_option maxHeartbeats 1000000 in
set_option maxRecDepth 20000 in
theorem L2_firstLeft_2 {g : fkG} {k : fkK} (hk : fk_ok wC g k RX2 cX2_firstLeft 4 (some (.int)) 0 0) (fu : Nat) : ∀ (v1 : Int32) (v2 : Int32) (v3 : Int32) (st : fkS), fk_J wC g fk_eI k 2 [(0, fk_r g 44), (1, .int v1), (2, .int v2), (3, .int v3)] [] st (fk_lp3 (B2_firstLeft_2) fu v1 v2 v3 st) := by
  induction fu with
  | zero =>
    intro v1 v2 v3 st
    exact j_none hk
  | succ fu ih =>
    exact T2_firstLeft_2 hk _ ih
def F2_firstLeft (p1 : Int32) (p2 : Int32) (st : fkS) : Option (Int32 × fkS) :=
fk_lp3 (B2_firstLeft_2) fk_fuel p1 p2 (0 : Int32) st
set_option maxHeartbeats 1000000 in
set_option maxRecDepth 20000 in
theorem C2_firstLeft (p1 : Int32) (p2 : Int32) (st : fkS) {g : fkG} (l : Launch) (o : Int32 × fkS) (hF : F2_firstLeft p1 p2 st = some o) : fk_C wC yX2_firstLeft cX2_firstLeft 4 (some (.int)) 0 0 l g [fk_r g 44, .int p1, .int p2] st (fk_eI o.1) o.2 := by
  refine fk_begin rfl (Nat.le_of_ble_eq_true rfl) (fun k hk => ?_) o hF
  have hk : fk_ok wC g k RX2 cX2_firstLeft 4 (some (.int)) 0 0 := hk
  show fk_J wC g fk_eI k 0 [(0, fk_r g 44), (1, .int p1), (2, .int p2)] [] st (F2_firstLeft p1 p2 st)
  unfold F2_firstLeft
  refine j_iconst (pc := 0) hk dX2_firstLeft_0 (v := 0) (by decide) ?_
  refine j_istore_n (lv' := ((3, .int (0 : Int32)) :: [(0, fk_r g 44), (1, .int p1), (2, .int p2)])) (pc := 1) hk rfl (by decide) rfl dX2_firstLeft_1 ?_
  refine j_sub hk (lv' := [(0, fk_r g 44), (1, .int p1), (2, .int p2), (3, .int (0 : Int32))]) [1, 2, 3, 0] rfl ?_
  exact j_sub hk [0, 1, 2, 3] rfl (L2_firstLeft_2 hk fk_fuel p1 p2 (0 : Int32) st)
theorem dX2_part_0 : decode cX2_part 0 = .ok (.aload_n 0, 1) := by decide +kernel
theorem dX2_part_1 : decode cX2_part 1 = .ok (.iconst 0, 1) := by decide +kernel
theorem dX2_part_2 : decode cX2_part 2 = .ok (.putfield 15, 3) := by decide +kernel
theorem dX2_part_5 : decode cX2_part 5 = .ok (.iconst 0, 1) := by decide +kernel
theorem dX2_part_6 : decode cX2_part 6 = .ok (.istore_n 2, 1) := by decide +kernel
theorem dX2_part_7 : decode cX2_part 7 = .ok (.iload_n 2, 1) := by decide +kernel
theorem dX2_part_8 : decode cX2_part 8 = .ok (.aload_n 0, 1) := by decide +kernel
theorem dX2_part_9 : decode cX2_part 9 = .ok (.getfield 9, 3) := by decide +kernel
theorem dX2_part_12 : decode cX2_part 12 = .ok (.if_icmp .ge 67, 3) := by decide +kernel
theorem dX2_part_15 : decode cX2_part 15 = .ok (.iload_n 2, 1) := by decide +kernel
theorem dX2_part_16 : decode cX2_part 16 = .ok (.aload_n 0, 1) := by decide +kernel
theorem dX2_part_17 : decode cX2_part 17 = .ok (.getfield 22, 3) := by decide +kernel
theorem dX2_part_20 : decode cX2_part 20 = .ok (.arraylength, 1) := by decide +kernel
theorem dX2_part_21 : decode cX2_part 21 = .ok (.if_icmp .ge 58, 3) := by decide +kernel
theorem dX2_part_24 : decode cX2_part 24 = .ok (.aload_n 0, 1) := by decide +kernel
theorem dX2_part_25 : decode cX2_part 25 = .ok (.getfield 22, 3) := by decide +kernel
theorem dX2_part_28 : decode cX2_part 28 = .ok (.iload_n 2, 1) := by decide +kernel
theorem dX2_part_29 : decode cX2_part 29 = .ok (.aload_n 0, 1) := by decide +kernel
theorem dX2_part_30 : decode cX2_part 30 = .ok (.aload_n 0, 1) := by decide +kernel
theorem dX2_part_31 : decode cX2_part 31 = .ok (.getfield 18, 3) := by decide +kernel
theorem dX2_part_34 : decode cX2_part 34 = .ok (.iload_n 2, 1) := by decide +kernel
theorem dX2_part_35 : decode cX2_part 35 = .ok (.iaload, 1) := by decide +kernel
theorem dX2_part_36 : decode cX2_part 36 = .ok (.iload_n 1, 1) := by decide +kernel
theorem dX2_part_37 : decode cX2_part 37 = .ok (.invokevirtual 37, 3) := by decide +kernel
theorem dX2_part_40 : decode cX2_part 40 = .ok (.iastore, 1) := by decide +kernel
theorem dX2_part_41 : decode cX2_part 41 = .ok (.aload_n 0, 1) := by decide +kernel
theorem dX2_part_42 : decode cX2_part 42 = .ok (.getfield 22, 3) := by decide +kernel
theorem dX2_part_45 : decode cX2_part 45 = .ok (.iload_n 2, 1) := by decide +kernel
theorem dX2_part_46 : decode cX2_part 46 = .ok (.iaload, 1) := by decide +kernel
theorem dX2_part_47 : decode cX2_part 47 = .ok (.iconst (-1), 1) := by decide +kernel
theorem dX2_part_48 : decode cX2_part 48 = .ok (.if_icmp .eq 25, 3) := by decide +kernel
theorem dX2_part_51 : decode cX2_part 51 = .ok (.aload_n 0, 1) := by decide +kernel
theorem dX2_part_52 : decode cX2_part 52 = .ok (.dup, 1) := by decide +kernel
theorem dX2_part_53 : decode cX2_part 53 = .ok (.getfield 15, 3) := by decide +kernel
theorem dX2_part_56 : decode cX2_part 56 = .ok (.iconst 1, 1) := by decide +kernel
theorem dX2_part_57 : decode cX2_part 57 = .ok (.iadd, 1) := by decide +kernel
theorem dX2_part_58 : decode cX2_part 58 = .ok (.putfield 15, 3) := by decide +kernel
theorem dX2_part_61 : decode cX2_part 61 = .ok (.aload_n 0, 1) := by decide +kernel
theorem dX2_part_62 : decode cX2_part 62 = .ok (.getfield 25, 3) := by decide +kernel
theorem dX2_part_65 : decode cX2_part 65 = .ok (.aload_n 0, 1) := by decide +kernel
theorem dX2_part_66 : decode cX2_part 66 = .ok (.getfield 22, 3) := by decide +kernel
theorem dX2_part_69 : decode cX2_part 69 = .ok (.iload_n 2, 1) := by decide +kernel
theorem dX2_part_70 : decode cX2_part 70 = .ok (.iaload, 1) := by decide +kernel
theorem dX2_part_71 : decode cX2_part 71 = .ok (.iconst (-1), 1) := by decide +kernel
theorem dX2_part_72 : decode cX2_part 72 = .ok (.iastore, 1) := by decide +kernel
theorem dX2_part_73 : decode cX2_part 73 = .ok (.iinc 2 1, 3) := by decide +kernel
theorem dX2_part_76 : decode cX2_part 76 = .ok (.goto (-69), 3) := by decide +kernel
theorem dX2_part_79 : decode cX2_part 79 = .ok (.return_, 1) := by decide +kernel
def B2_part_73 (k7 : Int32 → Int32 → fkS → Option (Unit × fkS)) (v1 : Int32) (v2 : Int32) (st : fkS) : Option (Unit × fkS) :=
k7 v1 (v2 + (1 : Int32)) st
set_option maxHeartbeats 1000000 in
set_option maxRecDepth 20000 in
theorem T2_part_73 {g : fkG} {k : fkK} (hk : fk_ok wC g k RX2 cX2_part 3 none 1 23) (k7 : Int32 → Int32 → fkS → Option (Unit × fkS)) (H7 : ∀ (v1 : Int32) (v2 : Int32) (st : fkS), fk_J wC g fk_eU k 7 [(0, fk_r g 44), (1, .int v1), (2, .int v2)] [] st (k7 v1 v2 st)) : ∀ (v1 : Int32) (v2 : Int32) (st : fkS), fk_J wC g fk_eU k 73 [(0, fk_r g 44), (1, .int v1), (2, .int v2)] [] st (B2_part_73 k7 v1 v2 st) := by
  intro v1 v2 st
  unfold B2_part_73
  refine j_iinc (dd := (1 : Int32)) (lv' := ((2, .int (v2 + (1 : Int32))) :: [(0, fk_r g 44), (1, .int v1)])) (pc := 73) hk 2 rfl (by decide) (by decide) rfl dX2_part_73 ?_
  refine j_sub hk (lv' := [(0, fk_r g 44), (1, .int v1), (2, .int (v2 + (1 : Int32)))]) [1, 2, 0] rfl ?_
  refine j_goto (tgt := 7) (pc := 76) hk (by decide) dX2_part_76 ?_
  exact j_sub hk [0, 1, 2] rfl (H7 v1 (v2 + (1 : Int32)) st)
def B2_part_7 (k7 : Int32 → Int32 → fkS → Option (Unit × fkS)) (v1 : Int32) (v2 : Int32) (st : fkS) : Option (Unit × fkS) :=
fk_let (gI st 40 44) <| fun x2 =>
if x2 ≤ v2 then
(some ((), st))
else
(if (7 : Int32) ≤ v2 then
(some ((), st))
else
(fk_chk (fk_in v2 7) <| fk_let (gA st 45 v2.toNatClampNeg) <| fun x3 =>
fk_bind (F2_firstLeft x3 v1 st) <| fun x4 st5 =>
fk_chk (fk_in v2 7) <| fk_let (sA st5 46 v2.toNatClampNeg x4) <| fun st6 =>
fk_chk (fk_in v2 7) <| fk_let (gA st6 46 v2.toNatClampNeg) <| fun x7 =>
if x7 = (-1 : Int32) then
(B2_part_73 k7 v1 v2 st6)
else
(fk_let (gI st6 41 44) <| fun x8 =>
fk_let (sI st6 41 44 (x8 + (1 : Int32))) <| fun st9 =>
fk_chk (fk_in v2 7) <| fk_let (gA st9 46 v2.toNatClampNeg) <| fun x10 =>
fk_chk (fk_in x10 7) <| fk_let (sA st9 47 x10.toNatClampNeg (-1 : Int32)) <| fun st11 =>
B2_part_73 k7 v1 v2 st11)))
set_option maxHeartbeats 1000000 in
set_option maxRecDepth 20000 in
theorem T2_part_7 {g : fkG} {k : fkK} (hk : fk_ok wC g k RX2 cX2_part 3 none 1 23) (k7 : Int32 → Int32 → fkS → Option (Unit × fkS)) (H7 : ∀ (v1 : Int32) (v2 : Int32) (st : fkS), fk_J wC g fk_eU k 7 [(0, fk_r g 44), (1, .int v1), (2, .int v2)] [] st (k7 v1 v2 st)) : ∀ (v1 : Int32) (v2 : Int32) (st : fkS), fk_J wC g fk_eU k 7 [(0, fk_r g 44), (1, .int v1), (2, .int v2)] [] st (B2_part_7 k7 v1 v2 st) := by
  intro v1 v2 st
  unfold B2_part_7
  refine j_iload_n (pc := 7) hk 2 rfl dX2_part_7 ?_
  refine j_aload_n (pc := 8) hk 0 rfl ⟨_, rfl⟩ dX2_part_8 ?_
  refine f_2_9 (pc := 9) hk (rfl) dX2_part_9 (fun x2 => ?_)
  refine j_icmp_ge (tgt := 79) (pc := 12) hk (by decide) dX2_part_12 (fun _ => ?_) (fun _ => ?_)
  · exact j_vret (pc := 79) hk dX2_part_79
  · refine j_iload_n (pc := 15) hk 2 rfl dX2_part_15 ?_
    refine j_aload_n (pc := 16) hk 0 rfl ⟨_, rfl⟩ dX2_part_16 ?_
    refine f_2_22 (pc := 17) hk (rfl) dX2_part_17 ?_
    refine a_ilen (pc := 20) hk (isI_2_3 (rfl)) (v := 7) (by decide) dX2_part_20 ?_
    refine j_icmp_ge (tgt := 79) (pc := 21) hk (by decide) dX2_part_21 (fun _ => ?_) (fun _ => ?_)
    · exact j_vret (pc := 79) hk dX2_part_79
    · refine j_aload_n (pc := 24) hk 0 rfl ⟨_, rfl⟩ dX2_part_24 ?_
      refine f_2_22 (pc := 25) hk (rfl) dX2_part_25 ?_
      refine j_iload_n (pc := 28) hk 2 rfl dX2_part_28 ?_
      refine j_aload_n (pc := 29) hk 0 rfl ⟨_, rfl⟩ dX2_part_29 ?_
      refine j_aload_n (pc := 30) hk 0 rfl ⟨_, rfl⟩ dX2_part_30 ?_
      refine f_2_18 (pc := 31) hk (rfl) dX2_part_31 ?_
      refine j_iload_n (pc := 34) hk 2 rfl dX2_part_34 ?_
      refine a_iload (pc := 35) hk (isI_2_2 (rfl)) dX2_part_35 (fun x3 => ?_)
      refine j_iload_n (pc := 36) hk 1 rfl dX2_part_36 ?_
      refine j_callVi (pc := 37) hk [.int x3, .int v1] [.int v2, fk_r g 46] rfl (fun l o hq9 => C2_firstLeft x3 v1 st l o hq9) (rcv_2 (rfl)) yv_X2_firstLeft ml_2_37 rfl (Nat.le_of_ble_eq_true rfl) (Nat.le_of_ble_eq_true rfl) (Nat.le_of_ble_eq_true rfl) dX2_part_37 (fun x4 st5 => ?_)
      refine a_istore (pc := 40) hk (isI_2_3 (rfl)) dX2_part_40 (fun st6 => ?_)
      refine j_aload_n (pc := 41) hk 0 rfl ⟨_, rfl⟩ dX2_part_41 ?_
      refine f_2_22 (pc := 42) hk (rfl) dX2_part_42 ?_
      refine j_iload_n (pc := 45) hk 2 rfl dX2_part_45 ?_
      refine a_iload (pc := 46) hk (isI_2_3 (rfl)) dX2_part_46 (fun x7 => ?_)
      refine j_iconst (pc := 47) hk dX2_part_47 (v := -1) (by decide) ?_
      refine j_icmp_eq (tgt := 73) (pc := 48) hk (by decide) dX2_part_48 (fun _ => ?_) (fun _ => ?_)
      · exact j_sub hk [0, 1, 2] rfl (T2_part_73 hk k7 H7 v1 v2 st6)
      · refine j_aload_n (pc := 51) hk 0 rfl ⟨_, rfl⟩ dX2_part_51 ?_
        refine j_dup (pc := 52) hk rfl dX2_part_52 ?_
        refine f_2_15 (pc := 53) hk (rfl) dX2_part_53 (fun x8 => ?_)
        refine j_iconst (pc := 56) hk dX2_part_56 (v := 1) (by decide) ?_
        refine j_iadd (pc := 57) hk dX2_part_57 ?_
        refine p_2_15 (pc := 58) hk (rfl) dX2_part_58 (fun st9 => ?_)
        refine j_aload_n (pc := 61) hk 0 rfl ⟨_, rfl⟩ dX2_part_61 ?_
        refine f_2_25 (pc := 62) hk (rfl) dX2_part_62 ?_
        refine j_aload_n (pc := 65) hk 0 rfl ⟨_, rfl⟩ dX2_part_65 ?_
        refine f_2_22 (pc := 66) hk (rfl) dX2_part_66 ?_
        refine j_iload_n (pc := 69) hk 2 rfl dX2_part_69 ?_
        refine a_iload (pc := 70) hk (isI_2_3 (rfl)) dX2_part_70 (fun x10 => ?_)
        refine j_iconst (pc := 71) hk dX2_part_71 (v := -1) (by decide) ?_
        refine a_istore (pc := 72) hk (isI_2_4 (rfl)) dX2_part_72 (fun st11 => ?_)
        exact j_sub hk [0, 1, 2] rfl (T2_part_73 hk k7 H7 v1 v2 st11)
set_option maxHeartbeats 1000000 in
set_option maxRecDepth 20000 in
theorem L2_part_7 {g : fkG} {k : fkK} (hk : fk_ok wC g k RX2 cX2_part 3 none 1 23) (fu : Nat) : ∀ (v1 : Int32) (v2 : Int32) (st : fkS), fk_J wC g fk_eU k 7 [(0, fk_r g 44), (1, .int v1), (2, .int v2)] [] st (fk_lp2 (B2_part_7) fu v1 v2 st) := by
  induction fu with
  | zero =>
    intro v1 v2 st
    exact j_none hk
  | succ fu ih =>
    exact T2_part_7 hk _ ih
def F2_part (p1 : Int32) (st : fkS) : Option (Unit × fkS) :=
fk_let (sI st 41 44 (0 : Int32)) <| fun st1 =>
fk_lp2 (B2_part_7) fk_fuel p1 (0 : Int32) st1
set_option maxHeartbeats 1000000 in
set_option maxRecDepth 20000 in
theorem C2_part (p1 : Int32) (st : fkS) {g : fkG} (l : Launch) (o : Unit × fkS) (hF : F2_part p1 st = some o) : fk_C wC yX2_part cX2_part 3 none 1 23 l g [fk_r g 44, .int p1] st (fk_eU o.1) o.2 := by
  refine fk_begin rfl (Nat.le_of_ble_eq_true rfl) (fun k hk => ?_) o hF
  have hk : fk_ok wC g k RX2 cX2_part 3 none 1 23 := hk
  show fk_J wC g fk_eU k 0 [(0, fk_r g 44), (1, .int p1)] [] st (F2_part p1 st)
  unfold F2_part
  refine j_aload_n (pc := 0) hk 0 rfl ⟨_, rfl⟩ dX2_part_0 ?_
  refine j_iconst (pc := 1) hk dX2_part_1 (v := 0) (by decide) ?_
  refine p_2_15 (pc := 2) hk (rfl) dX2_part_2 (fun st1 => ?_)
  refine j_iconst (pc := 5) hk dX2_part_5 (v := 0) (by decide) ?_
  refine j_istore_n (lv' := ((2, .int (0 : Int32)) :: [(0, fk_r g 44), (1, .int p1)])) (pc := 6) hk rfl (by decide) rfl dX2_part_6 ?_
  refine j_sub hk (lv' := [(0, fk_r g 44), (1, .int p1), (2, .int (0 : Int32))]) [1, 2, 0] rfl ?_
  exact j_sub hk [0, 1, 2] rfl (L2_part_7 hk fk_fuel p1 (0 : Int32) st1)
theorem dX2_whomHas_0 : decode cX2_whomHas 0 = .ok (.iload_n 1, 1) := by decide +kernel
theorem dX2_whomHas_1 : decode cX2_whomHas 1 = .ok (.ifCond .lt 20, 3) := by decide +kernel
theorem dX2_whomHas_4 : decode cX2_whomHas 4 = .ok (.iload_n 1, 1) := by decide +kernel
theorem dX2_whomHas_5 : decode cX2_whomHas 5 = .ok (.aload_n 0, 1) := by decide +kernel
theorem dX2_whomHas_6 : decode cX2_whomHas 6 = .ok (.getfield 9, 3) := by decide +kernel
theorem dX2_whomHas_9 : decode cX2_whomHas 9 = .ok (.if_icmp .ge 12, 3) := by decide +kernel
theorem dX2_whomHas_12 : decode cX2_whomHas 12 = .ok (.iload_n 1, 1) := by decide +kernel
theorem dX2_whomHas_13 : decode cX2_whomHas 13 = .ok (.aload_n 0, 1) := by decide +kernel
theorem dX2_whomHas_14 : decode cX2_whomHas 14 = .ok (.getfield 22, 3) := by decide +kernel
theorem dX2_whomHas_17 : decode cX2_whomHas 17 = .ok (.arraylength, 1) := by decide +kernel
theorem dX2_whomHas_18 : decode cX2_whomHas 18 = .ok (.if_icmp .lt 7, 3) := by decide +kernel
theorem dX2_whomHas_21 : decode cX2_whomHas 21 = .ok (.iconst (-1), 1) := by decide +kernel
theorem dX2_whomHas_22 : decode cX2_whomHas 22 = .ok (.goto 9, 3) := by decide +kernel
theorem dX2_whomHas_25 : decode cX2_whomHas 25 = .ok (.aload_n 0, 1) := by decide +kernel
theorem dX2_whomHas_26 : decode cX2_whomHas 26 = .ok (.getfield 22, 3) := by decide +kernel
theorem dX2_whomHas_29 : decode cX2_whomHas 29 = .ok (.iload_n 1, 1) := by decide +kernel
theorem dX2_whomHas_30 : decode cX2_whomHas 30 = .ok (.iaload, 1) := by decide +kernel
theorem dX2_whomHas_31 : decode cX2_whomHas 31 = .ok (.ireturn, 1) := by decide +kernel
def F2_whomHas (p1 : Int32) (st : fkS) : Option (Int32 × fkS) :=
if p1 < 0 then
(some ((-1 : Int32), st))
else
(fk_let (gI st 40 44) <| fun x1 =>
if x1 ≤ p1 then
(some ((-1 : Int32), st))
else
(if p1 < (7 : Int32) then
(fk_chk (fk_in p1 7) <| fk_let (gA st 46 p1.toNatClampNeg) <| fun x2 =>
some (x2, st))
else
(some ((-1 : Int32), st))))
set_option maxHeartbeats 1000000 in
set_option maxRecDepth 20000 in
theorem C2_whomHas (p1 : Int32) (st : fkS) {g : fkG} (l : Launch) (o : Int32 × fkS) (hF : F2_whomHas p1 st = some o) : fk_C wC yX2_whomHas cX2_whomHas 2 (some (.int)) 0 0 l g [fk_r g 44, .int p1] st (fk_eI o.1) o.2 := by
  refine fk_begin rfl (Nat.le_of_ble_eq_true rfl) (fun k hk => ?_) o hF
  have hk : fk_ok wC g k RX2 cX2_whomHas 2 (some (.int)) 0 0 := hk
  show fk_J wC g fk_eI k 0 [(0, fk_r g 44), (1, .int p1)] [] st (F2_whomHas p1 st)
  unfold F2_whomHas
  refine j_iload_n (pc := 0) hk 1 rfl dX2_whomHas_0 ?_
  refine j_if_lt (tgt := 21) (pc := 1) hk (by decide) dX2_whomHas_1 (fun _ => ?_) (fun _ => ?_)
  · refine j_iconst (pc := 21) hk dX2_whomHas_21 (v := -1) (by decide) ?_
    refine j_goto (tgt := 31) (pc := 22) hk (by decide) dX2_whomHas_22 ?_
    exact j_iret (pc := 31) hk dX2_whomHas_31
  · refine j_iload_n (pc := 4) hk 1 rfl dX2_whomHas_4 ?_
    refine j_aload_n (pc := 5) hk 0 rfl ⟨_, rfl⟩ dX2_whomHas_5 ?_
    refine f_2_9 (pc := 6) hk (rfl) dX2_whomHas_6 (fun x1 => ?_)
    refine j_icmp_ge (tgt := 21) (pc := 9) hk (by decide) dX2_whomHas_9 (fun _ => ?_) (fun _ => ?_)
    · refine j_iconst (pc := 21) hk dX2_whomHas_21 (v := -1) (by decide) ?_
      refine j_goto (tgt := 31) (pc := 22) hk (by decide) dX2_whomHas_22 ?_
      exact j_iret (pc := 31) hk dX2_whomHas_31
    · refine j_iload_n (pc := 12) hk 1 rfl dX2_whomHas_12 ?_
      refine j_aload_n (pc := 13) hk 0 rfl ⟨_, rfl⟩ dX2_whomHas_13 ?_
      refine f_2_22 (pc := 14) hk (rfl) dX2_whomHas_14 ?_
      refine a_ilen (pc := 17) hk (isI_2_3 (rfl)) (v := 7) (by decide) dX2_whomHas_17 ?_
      refine j_icmp_lt (tgt := 25) (pc := 18) hk (by decide) dX2_whomHas_18 (fun _ => ?_) (fun _ => ?_)
      · refine j_aload_n (pc := 25) hk 0 rfl ⟨_, rfl⟩ dX2_whomHas_25 ?_
        refine f_2_22 (pc := 26) hk (rfl) dX2_whomHas_26 ?_
        refine j_iload_n (pc := 29) hk 1 rfl dX2_whomHas_29 ?_
        refine a_iload (pc := 30) hk (isI_2_3 (rfl)) dX2_whomHas_30 (fun x2 => ?_)
        exact j_iret (pc := 31) hk dX2_whomHas_31
      · refine j_iconst (pc := 21) hk dX2_whomHas_21 (v := -1) (by decide) ?_
        refine j_goto (tgt := 31) (pc := 22) hk (by decide) dX2_whomHas_22 ?_
        exact j_iret (pc := 31) hk dX2_whomHas_31
theorem dX3_take_0 : decode cX3_take 0 = .ok (.aload_n 1, 1) := by decide +kernel
theorem dX3_take_1 : decode cX3_take 1 = .ok (.getfield 19, 3) := by decide +kernel
theorem dX3_take_4 : decode cX3_take 4 = .ok (.bipush 8, 2) := by decide +kernel
theorem dX3_take_6 : decode cX3_take 6 = .ok (.if_icmp .le 5, 3) := by decide +kernel
theorem dX3_take_9 : decode cX3_take 9 = .ok (.iconst 0, 1) := by decide +kernel
theorem dX3_take_10 : decode cX3_take 10 = .ok (.ireturn, 1) := by decide +kernel
theorem dX3_take_11 : decode cX3_take 11 = .ok (.aload_n 0, 1) := by decide +kernel
theorem dX3_take_12 : decode cX3_take 12 = .ok (.aload_n 1, 1) := by decide +kernel
theorem dX3_take_13 : decode cX3_take 13 = .ok (.getfield 19, 3) := by decide +kernel
theorem dX3_take_16 : decode cX3_take 16 = .ok (.putfield 15, 3) := by decide +kernel
theorem dX3_take_19 : decode cX3_take 19 = .ok (.iconst 0, 1) := by decide +kernel
theorem dX3_take_20 : decode cX3_take 20 = .ok (.istore_n 3, 1) := by decide +kernel
theorem dX3_take_21 : decode cX3_take 21 = .ok (.iload_n 3, 1) := by decide +kernel
theorem dX3_take_22 : decode cX3_take 22 = .ok (.aload_n 0, 1) := by decide +kernel
theorem dX3_take_23 : decode cX3_take 23 = .ok (.getfield 15, 3) := by decide +kernel
theorem dX3_take_26 : decode cX3_take 26 = .ok (.if_icmp .ge 48, 3) := by decide +kernel
theorem dX3_take_29 : decode cX3_take 29 = .ok (.iload_n 3, 1) := by decide +kernel
theorem dX3_take_30 : decode cX3_take 30 = .ok (.aload_n 0, 1) := by decide +kernel
theorem dX3_take_31 : decode cX3_take 31 = .ok (.getfield 9, 3) := by decide +kernel
theorem dX3_take_34 : decode cX3_take 34 = .ok (.arraylength, 1) := by decide +kernel
theorem dX3_take_35 : decode cX3_take 35 = .ok (.if_icmp .ge 39, 3) := by decide +kernel
theorem dX3_take_38 : decode cX3_take 38 = .ok (.aload_n 1, 1) := by decide +kernel
theorem dX3_take_39 : decode cX3_take 39 = .ok (.iload_n 3, 1) := by decide +kernel
theorem dX3_take_40 : decode cX3_take 40 = .ok (.invokevirtual 24, 3) := by decide +kernel
theorem dX3_take_43 : decode cX3_take 43 = .ok (.istore 4, 2) := by decide +kernel
theorem dX3_take_45 : decode cX3_take 45 = .ok (.iload 4, 2) := by decide +kernel
theorem dX3_take_47 : decode cX3_take 47 = .ok (.iload_n 2, 1) := by decide +kernel
theorem dX3_take_48 : decode cX3_take 48 = .ok (.if_icmp .lt 10, 3) := by decide +kernel
theorem dX3_take_51 : decode cX3_take 51 = .ok (.iload 4, 2) := by decide +kernel
theorem dX3_take_53 : decode cX3_take 53 = .ok (.bipush 10, 2) := by decide +kernel
theorem dX3_take_55 : decode cX3_take 55 = .ok (.if_icmp .lt 5, 3) := by decide +kernel
theorem dX3_take_58 : decode cX3_take 58 = .ok (.iconst 0, 1) := by decide +kernel
theorem dX3_take_59 : decode cX3_take 59 = .ok (.ireturn, 1) := by decide +kernel
theorem dX3_take_60 : decode cX3_take 60 = .ok (.aload_n 0, 1) := by decide +kernel
theorem dX3_take_61 : decode cX3_take 61 = .ok (.getfield 9, 3) := by decide +kernel
theorem dX3_take_64 : decode cX3_take 64 = .ok (.iload_n 3, 1) := by decide +kernel
theorem dX3_take_65 : decode cX3_take 65 = .ok (.iload 4, 2) := by decide +kernel
theorem dX3_take_67 : decode cX3_take 67 = .ok (.iastore, 1) := by decide +kernel
theorem dX3_take_68 : decode cX3_take 68 = .ok (.iinc 3 1, 3) := by decide +kernel
theorem dX3_take_71 : decode cX3_take 71 = .ok (.goto (-50), 3) := by decide +kernel
theorem dX3_take_74 : decode cX3_take 74 = .ok (.iconst 1, 1) := by decide +kernel
theorem dX3_take_75 : decode cX3_take 75 = .ok (.ireturn, 1) := by decide +kernel
def B3_take_21 (o1 : Nat) (k21 : Int32 → Int32 → fkS → Option (Int32 × fkS)) (v2 : Int32) (v3 : Int32) (st : fkS) : Option (Int32 × fkS) :=
fk_let (gI st 61 38) <| fun x4 =>
if x4 ≤ v3 then
(some ((1 : Int32), st))
else
(if (8 : Int32) ≤ v3 then
(some ((1 : Int32), st))
else
(fk_bind (F5_number o1 v3 st) <| fun x5 st6 =>
if x5 < v2 then
(some ((0 : Int32), st6))
else
(if x5 < (10 : Int32) then
(fk_chk (fk_in v3 8) <| fk_let (sA st6 39 v3.toNatClampNeg x5) <| fun st7 =>
k21 v2 (v3 + (1 : Int32)) st7)
else
(some ((0 : Int32), st6)))))
set_option maxHeartbeats 1000000 in
set_option maxRecDepth 20000 in
theorem T3_take_21 {g : fkG} {k : fkK} (o1 : Nat) (ho1 : kdC o1 = 5) (hk : fk_ok wC g k RX3 cX3_take 5 (some (.boolean)) 2 42) (k21 : Int32 → Int32 → fkS → Option (Int32 × fkS)) (H21 : ∀ (v2 : Int32) (v3 : Int32) (st : fkS), fk_J wC g fk_eI k 21 [(0, fk_r g 38), (1, fk_r g o1), (2, .int v2), (3, .int v3)] [] st (k21 v2 v3 st)) : ∀ (v2 : Int32) (v3 : Int32) (st : fkS), fk_J wC g fk_eI k 21 [(0, fk_r g 38), (1, fk_r g o1), (2, .int v2), (3, .int v3)] [] st (B3_take_21 o1 k21 v2 v3 st) := by
  intro v2 v3 st
  unfold B3_take_21
  refine j_iload_n (pc := 21) hk 3 rfl dX3_take_21 ?_
  refine j_aload_n (pc := 22) hk 0 rfl ⟨_, rfl⟩ dX3_take_22 ?_
  refine f_3_15 (pc := 23) hk (rfl) dX3_take_23 (fun x4 => ?_)
  refine j_icmp_ge (tgt := 74) (pc := 26) hk (by decide) dX3_take_26 (fun _ => ?_) (fun _ => ?_)
  · refine j_iconst (pc := 74) hk dX3_take_74 (v := 1) (by decide) ?_
    exact j_zret (pc := 75) hk rfl dX3_take_75
  · refine j_iload_n (pc := 29) hk 3 rfl dX3_take_29 ?_
    refine j_aload_n (pc := 30) hk 0 rfl ⟨_, rfl⟩ dX3_take_30 ?_
    refine f_3_9 (pc := 31) hk (rfl) dX3_take_31 ?_
    refine a_ilen (pc := 34) hk (isI_3_0 (rfl)) (v := 8) (by decide) dX3_take_34 ?_
    refine j_icmp_ge (tgt := 74) (pc := 35) hk (by decide) dX3_take_35 (fun _ => ?_) (fun _ => ?_)
    · refine j_iconst (pc := 74) hk dX3_take_74 (v := 1) (by decide) ?_
      exact j_zret (pc := 75) hk rfl dX3_take_75
    · refine j_aload_n (pc := 38) hk 1 rfl ⟨_, rfl⟩ dX3_take_38 ?_
      refine j_iload_n (pc := 39) hk 3 rfl dX3_take_39 ?_
      refine j_callVNi (pc := 40) hk [.int v3] [] rfl (fun l o hq9 => C5_number o1 (ho1) v3 st l o hq9) (rcv_5 (ho1)) yv_X5_number ml_3_24 rfl (Nat.le_of_ble_eq_true rfl) (Nat.le_of_ble_eq_true rfl) (Nat.le_of_ble_eq_true rfl) dX3_take_40 (fun x5 st6 => ?_)
      refine j_istore (lv' := ((4, .int x5) :: [(0, fk_r g 38), (1, fk_r g o1), (2, .int v2), (3, .int v3)])) (pc := 43) hk (by decide) rfl dX3_take_43 ?_
      refine j_sub hk (lv' := [(0, fk_r g 38), (1, fk_r g o1), (2, .int v2), (3, .int v3), (4, .int x5)]) [1, 2, 3, 4, 0] rfl ?_
      refine j_iload (pc := 45) hk 4 rfl dX3_take_45 ?_
      refine j_iload_n (pc := 47) hk 2 rfl dX3_take_47 ?_
      refine j_icmp_lt (tgt := 58) (pc := 48) hk (by decide) dX3_take_48 (fun _ => ?_) (fun _ => ?_)
      · refine j_iconst (pc := 58) hk dX3_take_58 (v := 0) (by decide) ?_
        exact j_zret (pc := 59) hk rfl dX3_take_59
      · refine j_iload (pc := 51) hk 4 rfl dX3_take_51 ?_
        refine j_bipush (pc := 53) hk dX3_take_53 (v := 10) (by decide) ?_
        refine j_icmp_lt (tgt := 60) (pc := 55) hk (by decide) dX3_take_55 (fun _ => ?_) (fun _ => ?_)
        · refine j_aload_n (pc := 60) hk 0 rfl ⟨_, rfl⟩ dX3_take_60 ?_
          refine f_3_9 (pc := 61) hk (rfl) dX3_take_61 ?_
          refine j_iload_n (pc := 64) hk 3 rfl dX3_take_64 ?_
          refine j_iload (pc := 65) hk 4 rfl dX3_take_65 ?_
          refine a_istore (pc := 67) hk (isI_3_0 (rfl)) dX3_take_67 (fun st7 => ?_)
          refine j_iinc (dd := (1 : Int32)) (lv' := ((3, .int (v3 + (1 : Int32))) :: [(0, fk_r g 38), (1, fk_r g o1), (2, .int v2), (4, .int x5)])) (pc := 68) hk 3 rfl (by decide) (by decide) rfl dX3_take_68 ?_
          refine j_sub hk (lv' := [(0, fk_r g 38), (1, fk_r g o1), (2, .int v2), (3, .int (v3 + (1 : Int32))), (4, .int x5)]) [1, 2, 3, 0, 4] rfl ?_
          refine j_goto (tgt := 21) (pc := 71) hk (by decide) dX3_take_71 ?_
          exact j_sub hk [0, 1, 2, 3] rfl (H21 v2 (v3 + (1 : Int32)) st7)
        · refine j_iconst (pc := 58) hk dX3_take_58 (v := 0) (by decide) ?_
          exact j_zret (pc := 59) hk rfl dX3_take_59
set_option maxHeartbeats 1000000 in
set_option maxRecDepth 20000 in
theorem L3_take_21 {g : fkG} {k : fkK} (o1 : Nat) (ho1 : kdC o1 = 5) (hk : fk_ok wC g k RX3 cX3_take 5 (some (.boolean)) 2 42) (fu : Nat) : ∀ (v2 : Int32) (v3 : Int32) (st : fkS), fk_J wC g fk_eI k 21 [(0, fk_r g 38), (1, fk_r g o1), (2, .int v2), (3, .int v3)] [] st (fk_lp2 (B3_take_21 o1) fu v2 v3 st) := by
  induction fu with
  | zero =>
    intro v2 v3 st
    exact j_none hk
  | succ fu ih =>
    exact T3_take_21 o1 ho1 hk _ ih
def F3_take (o1 : Nat) (p2 : Int32) (st : fkS) : Option (Int32 × fkS) :=
fk_let (gI st 103 o1) <| fun x1 =>
if x1 ≤ (8 : Int32) then
(fk_let (gI st 103 o1) <| fun x2 =>
fk_let (sI st 61 38 x2) <| fun st3 =>
fk_lp2 (B3_take_21 o1) fk_fuel p2 (0 : Int32) st3)
else
(some ((0 : Int32), st))
set_option maxHeartbeats 1000000 in
set_option maxRecDepth 20000 in
theorem C3_take (o1 : Nat) (ho1 : kdC o1 = 5) (p2 : Int32) (st : fkS) {g : fkG} (l : Launch) (o : Int32 × fkS) (hF : F3_take o1 p2 st = some o) : fk_C wC yX3_take cX3_take 5 (some (.boolean)) 2 42 l g [fk_r g 38, fk_r g o1, .int p2] st (fk_eI o.1) o.2 := by
  refine fk_begin rfl (Nat.le_of_ble_eq_true rfl) (fun k hk => ?_) o hF
  have hk : fk_ok wC g k RX3 cX3_take 5 (some (.boolean)) 2 42 := hk
  show fk_J wC g fk_eI k 0 [(0, fk_r g 38), (1, fk_r g o1), (2, .int p2)] [] st (F3_take o1 p2 st)
  unfold F3_take
  refine j_aload_n (pc := 0) hk 1 rfl ⟨_, rfl⟩ dX3_take_0 ?_
  refine f_3_19 (pc := 1) hk (ho1) dX3_take_1 (fun x1 => ?_)
  refine j_bipush (pc := 4) hk dX3_take_4 (v := 8) (by decide) ?_
  refine j_icmp_le (tgt := 11) (pc := 6) hk (by decide) dX3_take_6 (fun _ => ?_) (fun _ => ?_)
  · refine j_aload_n (pc := 11) hk 0 rfl ⟨_, rfl⟩ dX3_take_11 ?_
    refine j_aload_n (pc := 12) hk 1 rfl ⟨_, rfl⟩ dX3_take_12 ?_
    refine f_3_19 (pc := 13) hk (ho1) dX3_take_13 (fun x2 => ?_)
    refine p_3_15 (pc := 16) hk (rfl) dX3_take_16 (fun st3 => ?_)
    refine j_iconst (pc := 19) hk dX3_take_19 (v := 0) (by decide) ?_
    refine j_istore_n (lv' := ((3, .int (0 : Int32)) :: [(0, fk_r g 38), (1, fk_r g o1), (2, .int p2)])) (pc := 20) hk rfl (by decide) rfl dX3_take_20 ?_
    refine j_sub hk (lv' := [(0, fk_r g 38), (1, fk_r g o1), (2, .int p2), (3, .int (0 : Int32))]) [1, 2, 3, 0] rfl ?_
    exact j_sub hk [0, 1, 2, 3] rfl (L3_take_21 o1 ho1 hk fk_fuel p2 (0 : Int32) st3)
  · refine j_iconst (pc := 9) hk dX3_take_9 (v := 0) (by decide) ?_
    exact j_zret (pc := 10) hk rfl dX3_take_10
theorem dX3_setByNumber_0 : decode cX3_setByNumber 0 = .ok (.aload_n 0, 1) := by decide +kernel
theorem dX3_setByNumber_1 : decode cX3_setByNumber 1 = .ok (.iconst 0, 1) := by decide +kernel
theorem dX3_setByNumber_2 : decode cX3_setByNumber 2 = .ok (.iload_n 1, 1) := by decide +kernel
theorem dX3_setByNumber_3 : decode cX3_setByNumber 3 = .ok (.aload_n 0, 1) := by decide +kernel
theorem dX3_setByNumber_4 : decode cX3_setByNumber 4 = .ok (.getfield 9, 3) := by decide +kernel
theorem dX3_setByNumber_7 : decode cX3_setByNumber 7 = .ok (.arraylength, 1) := by decide +kernel
theorem dX3_setByNumber_8 : decode cX3_setByNumber 8 = .ok (.invokestatic 28, 3) := by decide +kernel
theorem dX3_setByNumber_11 : decode cX3_setByNumber 11 = .ok (.invokestatic 34, 3) := by decide +kernel
theorem dX3_setByNumber_14 : decode cX3_setByNumber 14 = .ok (.putfield 15, 3) := by decide +kernel
theorem dX3_setByNumber_17 : decode cX3_setByNumber 17 = .ok (.iload_n 2, 1) := by decide +kernel
theorem dX3_setByNumber_18 : decode cX3_setByNumber 18 = .ok (.istore_n 3, 1) := by decide +kernel
theorem dX3_setByNumber_19 : decode cX3_setByNumber 19 = .ok (.aload_n 0, 1) := by decide +kernel
theorem dX3_setByNumber_20 : decode cX3_setByNumber 20 = .ok (.getfield 15, 3) := by decide +kernel
theorem dX3_setByNumber_23 : decode cX3_setByNumber 23 = .ok (.iconst 1, 1) := by decide +kernel
theorem dX3_setByNumber_24 : decode cX3_setByNumber 24 = .ok (.isub, 1) := by decide +kernel
theorem dX3_setByNumber_25 : decode cX3_setByNumber 25 = .ok (.istore 4, 2) := by decide +kernel
theorem dX3_setByNumber_27 : decode cX3_setByNumber 27 = .ok (.iload 4, 2) := by decide +kernel
theorem dX3_setByNumber_29 : decode cX3_setByNumber 29 = .ok (.ifCond .lt 25, 3) := by decide +kernel
theorem dX3_setByNumber_32 : decode cX3_setByNumber 32 = .ok (.aload_n 0, 1) := by decide +kernel
theorem dX3_setByNumber_33 : decode cX3_setByNumber 33 = .ok (.getfield 9, 3) := by decide +kernel
theorem dX3_setByNumber_36 : decode cX3_setByNumber 36 = .ok (.iload 4, 2) := by decide +kernel
theorem dX3_setByNumber_38 : decode cX3_setByNumber 38 = .ok (.iload_n 3, 1) := by decide +kernel
theorem dX3_setByNumber_39 : decode cX3_setByNumber 39 = .ok (.bipush 10, 2) := by decide +kernel
theorem dX3_setByNumber_41 : decode cX3_setByNumber 41 = .ok (.irem, 1) := by decide +kernel
theorem dX3_setByNumber_42 : decode cX3_setByNumber 42 = .ok (.iastore, 1) := by decide +kernel
theorem dX3_setByNumber_43 : decode cX3_setByNumber 43 = .ok (.iload_n 3, 1) := by decide +kernel
theorem dX3_setByNumber_44 : decode cX3_setByNumber 44 = .ok (.bipush 10, 2) := by decide +kernel
theorem dX3_setByNumber_46 : decode cX3_setByNumber 46 = .ok (.idiv, 1) := by decide +kernel
theorem dX3_setByNumber_47 : decode cX3_setByNumber 47 = .ok (.istore_n 3, 1) := by decide +kernel
theorem dX3_setByNumber_48 : decode cX3_setByNumber 48 = .ok (.iinc 4 (-1), 3) := by decide +kernel
theorem dX3_setByNumber_51 : decode cX3_setByNumber 51 = .ok (.goto (-24), 3) := by decide +kernel
theorem dX3_setByNumber_54 : decode cX3_setByNumber 54 = .ok (.return_, 1) := by decide +kernel
def B3_setByNumber_27 (k27 : Int32 → Int32 → fkS → Option (Unit × fkS)) (v3 : Int32) (v4 : Int32) (st : fkS) : Option (Unit × fkS) :=
if v4 < 0 then
(some ((), st))
else
(fk_chk (fk_in v4 8) <| fk_let (sA st 39 v4.toNatClampNeg (fk_rem v3 (10 : Int32))) <| fun st3 =>
k27 (v3 / (10 : Int32)) (v4 + (-1 : Int32)) st3)
set_option maxHeartbeats 1000000 in
set_option maxRecDepth 20000 in
theorem T3_setByNumber_27 {g : fkG} {k : fkK} (hk : fk_ok wC g k RX3 cX3_setByNumber 5 none 1 100) (k27 : Int32 → Int32 → fkS → Option (Unit × fkS)) (H27 : ∀ (v3 : Int32) (v4 : Int32) (st : fkS), fk_J wC g fk_eU k 27 [(0, fk_r g 38), (3, .int v3), (4, .int v4)] [] st (k27 v3 v4 st)) : ∀ (v3 : Int32) (v4 : Int32) (st : fkS), fk_J wC g fk_eU k 27 [(0, fk_r g 38), (3, .int v3), (4, .int v4)] [] st (B3_setByNumber_27 k27 v3 v4 st) := by
  intro v3 v4 st
  unfold B3_setByNumber_27
  refine j_iload (pc := 27) hk 2 rfl dX3_setByNumber_27 ?_
  refine j_if_lt (tgt := 54) (pc := 29) hk (by decide) dX3_setByNumber_29 (fun _ => ?_) (fun _ => ?_)
  · exact j_vret (pc := 54) hk dX3_setByNumber_54
  · refine j_aload_n (pc := 32) hk 0 rfl ⟨_, rfl⟩ dX3_setByNumber_32 ?_
    refine f_3_9 (pc := 33) hk (rfl) dX3_setByNumber_33 ?_
    refine j_iload (pc := 36) hk 2 rfl dX3_setByNumber_36 ?_
    refine j_iload_n (pc := 38) hk 1 rfl dX3_setByNumber_38 ?_
    refine j_bipush (pc := 39) hk dX3_setByNumber_39 (v := 10) (by decide) ?_
    refine j_irem (pc := 41) hk (show fk_nz (10 : Int32) = true from by decide) dX3_setByNumber_41 ?_
    refine a_istore (pc := 42) hk (isI_3_0 (rfl)) dX3_setByNumber_42 (fun st3 => ?_)
    refine j_iload_n (pc := 43) hk 1 rfl dX3_setByNumber_43 ?_
    refine j_bipush (pc := 44) hk dX3_setByNumber_44 (v := 10) (by decide) ?_
    refine j_idiv (pc := 46) hk (show fk_nz (10 : Int32) = true from by decide) dX3_setByNumber_46 ?_
    refine j_istore_n (lv' := ((3, .int (v3 / (10 : Int32))) :: [(0, fk_r g 38), (4, .int v4)])) (pc := 47) hk rfl (by decide) rfl dX3_setByNumber_47 ?_
    refine j_sub hk (lv' := [(0, fk_r g 38), (3, .int (v3 / (10 : Int32))), (4, .int v4)]) [1, 0, 2] rfl ?_
    refine j_iinc (dd := (-1 : Int32)) (lv' := ((4, .int (v4 + (-1 : Int32))) :: [(0, fk_r g 38), (3, .int (v3 / (10 : Int32)))])) (pc := 48) hk 2 rfl (by decide) (by decide) rfl dX3_setByNumber_48 ?_
    refine j_sub hk (lv' := [(0, fk_r g 38), (3, .int (v3 / (10 : Int32))), (4, .int (v4 + (-1 : Int32)))]) [1, 2, 0] rfl ?_
    refine j_goto (tgt := 27) (pc := 51) hk (by decide) dX3_setByNumber_51 ?_
    exact j_sub hk [0, 1, 2] rfl (H27 (v3 / (10 : Int32)) (v4 + (-1 : Int32)) st3)
set_option maxHeartbeats 1000000 in
set_option maxRecDepth 20000 in
theorem L3_setByNumber_27 {g : fkG} {k : fkK} (hk : fk_ok wC g k RX3 cX3_setByNumber 5 none 1 100) (fu : Nat) : ∀ (v3 : Int32) (v4 : Int32) (st : fkS), fk_J wC g fk_eU k 27 [(0, fk_r g 38), (3, .int v3), (4, .int v4)] [] st (fk_lp2 (B3_setByNumber_27) fu v3 v4 st) := by
  induction fu with
  | zero =>
    intro v3 v4 st
    exact j_none hk
  | succ fu ih =>
    exact T3_setByNumber_27 hk _ ih
def F3_setByNumber (p1 : Int32) (p2 : Int32) (st : fkS) : Option (Unit × fkS) :=
fk_let (sI st 61 38 (fk_max (0 : Int32) (fk_min p1 (8 : Int32)))) <| fun st1 =>
fk_let (gI st1 61 38) <| fun x2 =>
fk_lp2 (B3_setByNumber_27) fk_fuel p2 (x2 - (1 : Int32)) st1
set_option maxHeartbeats 1000000 in
set_option maxRecDepth 20000 in
theorem C3_setByNumber (p1 : Int32) (p2 : Int32) (st : fkS) {g : fkG} (l : Launch) (o : Unit × fkS) (hF : F3_setByNumber p1 p2 st = some o) : fk_C wC yX3_setByNumber cX3_setByNumber 5 none 1 100 l g [fk_r g 38, .int p1, .int p2] st (fk_eU o.1) o.2 := by
  refine fk_begin rfl (Nat.le_of_ble_eq_true rfl) (fun k hk => ?_) o hF
  have hk : fk_ok wC g k RX3 cX3_setByNumber 5 none 1 100 := hk
  show fk_J wC g fk_eU k 0 [(0, fk_r g 38), (1, .int p1), (2, .int p2)] [] st (F3_setByNumber p1 p2 st)
  unfold F3_setByNumber
  refine j_aload_n (pc := 0) hk 0 rfl ⟨_, rfl⟩ dX3_setByNumber_0 ?_
  refine j_iconst (pc := 1) hk dX3_setByNumber_1 (v := 0) (by decide) ?_
  refine j_iload_n (pc := 2) hk 1 rfl dX3_setByNumber_2 ?_
  refine j_aload_n (pc := 3) hk 0 rfl ⟨_, rfl⟩ dX3_setByNumber_3 ?_
  refine f_3_9 (pc := 4) hk (rfl) dX3_setByNumber_4 ?_
  refine a_ilen (pc := 7) hk (isI_3_0 (rfl)) (v := 8) (by decide) dX3_setByNumber_7 ?_
  refine j_mmin (pc := 8) hk ml_3_28 wd_min1 wd_math wd_min2 (Nat.le_of_ble_eq_true rfl) (Nat.le_of_ble_eq_true rfl) dX3_setByNumber_8 ?_
  refine j_mmax (pc := 11) hk ml_3_34 wd_max1 wd_math wd_max2 (Nat.le_of_ble_eq_true rfl) (Nat.le_of_ble_eq_true rfl) dX3_setByNumber_11 ?_
  refine p_3_15 (pc := 14) hk (rfl) dX3_setByNumber_14 (fun st1 => ?_)
  refine j_iload_n (pc := 17) hk 2 rfl dX3_setByNumber_17 ?_
  refine j_istore_n (lv' := ((3, .int p2) :: [(0, fk_r g 38), (1, .int p1), (2, .int p2)])) (pc := 18) hk rfl (by decide) rfl dX3_setByNumber_18 ?_
  refine j_sub hk (lv' := [(0, fk_r g 38), (1, .int p1), (2, .int p2), (3, .int p2)]) [1, 2, 3, 0] rfl ?_
  refine j_aload_n (pc := 19) hk 0 rfl ⟨_, rfl⟩ dX3_setByNumber_19 ?_
  refine f_3_15 (pc := 20) hk (rfl) dX3_setByNumber_20 (fun x2 => ?_)
  refine j_iconst (pc := 23) hk dX3_setByNumber_23 (v := 1) (by decide) ?_
  refine j_isub (pc := 24) hk dX3_setByNumber_24 ?_
  refine j_istore (lv' := ((4, .int (x2 - (1 : Int32))) :: [(0, fk_r g 38), (1, .int p1), (2, .int p2), (3, .int p2)])) (pc := 25) hk (by decide) rfl dX3_setByNumber_25 ?_
  refine j_sub hk (lv' := [(0, fk_r g 38), (1, .int p1), (2, .int p2), (3, .int p2), (4, .int (x2 - (1 : Int32)))]) [1, 2, 3, 4, 0] rfl ?_
  exact j_sub hk [0, 3, 4] rfl (L3_setByNumber_27 hk fk_fuel p2 (x2 - (1 : Int32)) st1)
end
section
theorem dX3_setLast_0 : decode cX3_setLast 0 = .ok (.aload_n 0, 1) := by decide +kernel
theorem dX3_setLast_1 : decode cX3_setLast 1 = .ok (.getfield 15, 3) := by decide +kernel
theorem dX3_setLast_4 : decode cX3_setLast 4 = .ok (.ifCond .le 27, 3) := by decide +kernel
theorem dX3_setLast_7 : decode cX3_setLast 7 = .ok (.aload_n 0, 1) := by decide +kernel
theorem dX3_setLast_8 : decode cX3_setLast 8 = .ok (.getfield 15, 3) := by decide +kernel
theorem dX3_setLast_11 : decode cX3_setLast 11 = .ok (.aload_n 0, 1) := by decide +kernel
theorem dX3_setLast_12 : decode cX3_setLast 12 = .ok (.getfield 9, 3) := by decide +kernel
theorem dX3_setLast_15 : decode cX3_setLast 15 = .ok (.arraylength, 1) := by decide +kernel
theorem dX3_setLast_16 : decode cX3_setLast 16 = .ok (.if_icmp .gt 15, 3) := by decide +kernel
theorem dX3_setLast_19 : decode cX3_setLast 19 = .ok (.aload_n 0, 1) := by decide +kernel
theorem dX3_setLast_20 : decode cX3_setLast 20 = .ok (.getfield 9, 3) := by decide +kernel
theorem dX3_setLast_23 : decode cX3_setLast 23 = .ok (.aload_n 0, 1) := by decide +kernel
theorem dX3_setLast_24 : decode cX3_setLast 24 = .ok (.getfield 15, 3) := by decide +kernel
theorem dX3_setLast_27 : decode cX3_setLast 27 = .ok (.iconst 1, 1) := by decide +kernel
theorem dX3_setLast_28 : decode cX3_setLast 28 = .ok (.isub, 1) := by decide +kernel
theorem dX3_setLast_29 : decode cX3_setLast 29 = .ok (.iload_n 1, 1) := by decide +kernel
theorem dX3_setLast_30 : decode cX3_setLast 30 = .ok (.iastore, 1) := by decide +kernel
theorem dX3_setLast_31 : decode cX3_setLast 31 = .ok (.return_, 1) := by decide +kernel
def F3_setLast (p1 : Int32) (st : fkS) : Option (Unit × fkS) :=
fk_let (gI st 61 38) <| fun x1 =>
if x1 ≤ 0 then
(some ((), st))
else
(fk_let (gI st 61 38) <| fun x2 =>
if (8 : Int32) < x2 then
(some ((), st))
else
(fk_let (gI st 61 38) <| fun x3 =>
fk_chk (fk_in (x3 - (1 : Int32)) 8) <| fk_let (sA st 39 (x3 - (1 : Int32)).toNatClampNeg p1) <| fun st4 =>
some ((), st4)))
set_option maxHeartbeats 1000000 in
set_option maxRecDepth 20000 in
theorem C3_setLast (p1 : Int32) (st : fkS) {g : fkG} (l : Launch) (o : Unit × fkS) (hF : F3_setLast p1 st = some o) : fk_C wC yX3_setLast cX3_setLast 2 none 0 0 l g [fk_r g 38, .int p1] st (fk_eU o.1) o.2 := by
  refine fk_begin rfl (Nat.le_of_ble_eq_true rfl) (fun k hk => ?_) o hF
  have hk : fk_ok wC g k RX3 cX3_setLast 2 none 0 0 := hk
  show fk_J wC g fk_eU k 0 [(0, fk_r g 38), (1, .int p1)] [] st (F3_setLast p1 st)
  unfold F3_setLast
  refine j_aload_n (pc := 0) hk 0 rfl ⟨_, rfl⟩ dX3_setLast_0 ?_
  refine f_3_15 (pc := 1) hk (rfl) dX3_setLast_1 (fun x1 => ?_)
  refine j_if_le (tgt := 31) (pc := 4) hk (by decide) dX3_setLast_4 (fun _ => ?_) (fun _ => ?_)
  · exact j_vret (pc := 31) hk dX3_setLast_31
  · refine j_aload_n (pc := 7) hk 0 rfl ⟨_, rfl⟩ dX3_setLast_7 ?_
    refine f_3_15 (pc := 8) hk (rfl) dX3_setLast_8 (fun x2 => ?_)
    refine j_aload_n (pc := 11) hk 0 rfl ⟨_, rfl⟩ dX3_setLast_11 ?_
    refine f_3_9 (pc := 12) hk (rfl) dX3_setLast_12 ?_
    refine a_ilen (pc := 15) hk (isI_3_0 (rfl)) (v := 8) (by decide) dX3_setLast_15 ?_
    refine j_icmp_gt (tgt := 31) (pc := 16) hk (by decide) dX3_setLast_16 (fun _ => ?_) (fun _ => ?_)
    · exact j_vret (pc := 31) hk dX3_setLast_31
    · refine j_aload_n (pc := 19) hk 0 rfl ⟨_, rfl⟩ dX3_setLast_19 ?_
      refine f_3_9 (pc := 20) hk (rfl) dX3_setLast_20 ?_
      refine j_aload_n (pc := 23) hk 0 rfl ⟨_, rfl⟩ dX3_setLast_23 ?_
      refine f_3_15 (pc := 24) hk (rfl) dX3_setLast_24 (fun x3 => ?_)
      refine j_iconst (pc := 27) hk dX3_setLast_27 (v := 1) (by decide) ?_
      refine j_isub (pc := 28) hk dX3_setLast_28 ?_
      refine j_iload_n (pc := 29) hk 1 rfl dX3_setLast_29 ?_
      refine a_istore (pc := 30) hk (isI_3_0 (rfl)) dX3_setLast_30 (fun st4 => ?_)
      exact j_vret (pc := 31) hk dX3_setLast_31
theorem dX3_unknowns_0 : decode cX3_unknowns 0 = .ok (.iconst 0, 1) := by decide +kernel
theorem dX3_unknowns_1 : decode cX3_unknowns 1 = .ok (.istore_n 1, 1) := by decide +kernel
theorem dX3_unknowns_2 : decode cX3_unknowns 2 = .ok (.iconst 0, 1) := by decide +kernel
theorem dX3_unknowns_3 : decode cX3_unknowns 3 = .ok (.istore_n 2, 1) := by decide +kernel
theorem dX3_unknowns_4 : decode cX3_unknowns 4 = .ok (.iload_n 2, 1) := by decide +kernel
theorem dX3_unknowns_5 : decode cX3_unknowns 5 = .ok (.aload_n 0, 1) := by decide +kernel
theorem dX3_unknowns_6 : decode cX3_unknowns 6 = .ok (.getfield 15, 3) := by decide +kernel
theorem dX3_unknowns_9 : decode cX3_unknowns 9 = .ok (.if_icmp .ge 36, 3) := by decide +kernel
theorem dX3_unknowns_12 : decode cX3_unknowns 12 = .ok (.iload_n 2, 1) := by decide +kernel
theorem dX3_unknowns_13 : decode cX3_unknowns 13 = .ok (.aload_n 0, 1) := by decide +kernel
theorem dX3_unknowns_14 : decode cX3_unknowns 14 = .ok (.getfield 9, 3) := by decide +kernel
theorem dX3_unknowns_17 : decode cX3_unknowns 17 = .ok (.arraylength, 1) := by decide +kernel
theorem dX3_unknowns_18 : decode cX3_unknowns 18 = .ok (.if_icmp .ge 27, 3) := by decide +kernel
theorem dX3_unknowns_21 : decode cX3_unknowns 21 = .ok (.iload_n 1, 1) := by decide +kernel
theorem dX3_unknowns_22 : decode cX3_unknowns 22 = .ok (.aload_n 0, 1) := by decide +kernel
theorem dX3_unknowns_23 : decode cX3_unknowns 23 = .ok (.getfield 9, 3) := by decide +kernel
theorem dX3_unknowns_26 : decode cX3_unknowns 26 = .ok (.iload_n 2, 1) := by decide +kernel
theorem dX3_unknowns_27 : decode cX3_unknowns 27 = .ok (.iaload, 1) := by decide +kernel
theorem dX3_unknowns_28 : decode cX3_unknowns 28 = .ok (.iconst (-1), 1) := by decide +kernel
theorem dX3_unknowns_29 : decode cX3_unknowns 29 = .ok (.if_icmp .ne 7, 3) := by decide +kernel
theorem dX3_unknowns_32 : decode cX3_unknowns 32 = .ok (.iconst 1, 1) := by decide +kernel
theorem dX3_unknowns_33 : decode cX3_unknowns 33 = .ok (.goto 4, 3) := by decide +kernel
theorem dX3_unknowns_36 : decode cX3_unknowns 36 = .ok (.iconst 0, 1) := by decide +kernel
theorem dX3_unknowns_37 : decode cX3_unknowns 37 = .ok (.iadd, 1) := by decide +kernel
theorem dX3_unknowns_38 : decode cX3_unknowns 38 = .ok (.istore_n 1, 1) := by decide +kernel
theorem dX3_unknowns_39 : decode cX3_unknowns 39 = .ok (.iinc 2 1, 3) := by decide +kernel
theorem dX3_unknowns_42 : decode cX3_unknowns 42 = .ok (.goto (-38), 3) := by decide +kernel
theorem dX3_unknowns_45 : decode cX3_unknowns 45 = .ok (.iload_n 1, 1) := by decide +kernel
theorem dX3_unknowns_46 : decode cX3_unknowns 46 = .ok (.ireturn, 1) := by decide +kernel
def B3_unknowns_37 (k4 : Int32 → Int32 → fkS → Option (Int32 × fkS)) (v2 : Int32) (s0 : Int32) (s1 : Int32) (st : fkS) : Option (Int32 × fkS) :=
k4 (s0 + s1) (v2 + (1 : Int32)) st
set_option maxHeartbeats 1000000 in
set_option maxRecDepth 20000 in
theorem T3_unknowns_37 {g : fkG} {k : fkK} (hk : fk_ok wC g k RX3 cX3_unknowns 3 (some (.int)) 0 0) (k4 : Int32 → Int32 → fkS → Option (Int32 × fkS)) (H4 : ∀ (v1 : Int32) (v2 : Int32) (st : fkS), fk_J wC g fk_eI k 4 [(0, fk_r g 38), (1, .int v1), (2, .int v2)] [] st (k4 v1 v2 st)) : ∀ (v2 : Int32) (s0 : Int32) (s1 : Int32) (st : fkS), fk_J wC g fk_eI k 37 [(0, fk_r g 38), (2, .int v2)] [.int s1, .int s0] st (B3_unknowns_37 k4 v2 s0 s1 st) := by
  intro v2 s0 s1 st
  unfold B3_unknowns_37
  refine j_iadd (pc := 37) hk dX3_unknowns_37 ?_
  refine j_istore_n (lv' := ((1, .int (s0 + s1)) :: [(0, fk_r g 38), (2, .int v2)])) (pc := 38) hk rfl (by decide) rfl dX3_unknowns_38 ?_
  refine j_sub hk (lv' := [(0, fk_r g 38), (1, .int (s0 + s1)), (2, .int v2)]) [1, 0, 2] rfl ?_
  refine j_iinc (dd := (1 : Int32)) (lv' := ((2, .int (v2 + (1 : Int32))) :: [(0, fk_r g 38), (1, .int (s0 + s1))])) (pc := 39) hk 2 rfl (by decide) (by decide) rfl dX3_unknowns_39 ?_
  refine j_sub hk (lv' := [(0, fk_r g 38), (1, .int (s0 + s1)), (2, .int (v2 + (1 : Int32)))]) [1, 2, 0] rfl ?_
  refine j_goto (tgt := 4) (pc := 42) hk (by decide) dX3_unknowns_42 ?_
  exact j_sub hk [0, 1, 2] rfl (H4 (s0 + s1) (v2 + (1 : Int32)) st)
def B3_unknowns_4 (k4 : Int32 → Int32 → fkS → Option (Int32 × fkS)) (v1 : Int32) (v2 : Int32) (st : fkS) : Option (Int32 × fkS) :=
fk_let (gI st 61 38) <| fun x1 =>
if x1 ≤ v2 then
(some (v1, st))
else
(if (8 : Int32) ≤ v2 then
(some (v1, st))
else
(fk_chk (fk_in v2 8) <| fk_let (gA st 39 v2.toNatClampNeg) <| fun x2 =>
if x2 = (-1 : Int32) then
(B3_unknowns_37 k4 v2 v1 (1 : Int32) st)
else
(B3_unknowns_37 k4 v2 v1 (0 : Int32) st)))
set_option maxHeartbeats 1000000 in
set_option maxRecDepth 20000 in
theorem T3_unknowns_4 {g : fkG} {k : fkK} (hk : fk_ok wC g k RX3 cX3_unknowns 3 (some (.int)) 0 0) (k4 : Int32 → Int32 → fkS → Option (Int32 × fkS)) (H4 : ∀ (v1 : Int32) (v2 : Int32) (st : fkS), fk_J wC g fk_eI k 4 [(0, fk_r g 38), (1, .int v1), (2, .int v2)] [] st (k4 v1 v2 st)) : ∀ (v1 : Int32) (v2 : Int32) (st : fkS), fk_J wC g fk_eI k 4 [(0, fk_r g 38), (1, .int v1), (2, .int v2)] [] st (B3_unknowns_4 k4 v1 v2 st) := by
  intro v1 v2 st
  unfold B3_unknowns_4
  refine j_iload_n (pc := 4) hk 2 rfl dX3_unknowns_4 ?_
  refine j_aload_n (pc := 5) hk 0 rfl ⟨_, rfl⟩ dX3_unknowns_5 ?_
  refine f_3_15 (pc := 6) hk (rfl) dX3_unknowns_6 (fun x1 => ?_)
  refine j_icmp_ge (tgt := 45) (pc := 9) hk (by decide) dX3_unknowns_9 (fun _ => ?_) (fun _ => ?_)
  · refine j_iload_n (pc := 45) hk 1 rfl dX3_unknowns_45 ?_
    exact j_iret (pc := 46) hk dX3_unknowns_46
  · refine j_iload_n (pc := 12) hk 2 rfl dX3_unknowns_12 ?_
    refine j_aload_n (pc := 13) hk 0 rfl ⟨_, rfl⟩ dX3_unknowns_13 ?_
    refine f_3_9 (pc := 14) hk (rfl) dX3_unknowns_14 ?_
    refine a_ilen (pc := 17) hk (isI_3_0 (rfl)) (v := 8) (by decide) dX3_unknowns_17 ?_
    refine j_icmp_ge (tgt := 45) (pc := 18) hk (by decide) dX3_unknowns_18 (fun _ => ?_) (fun _ => ?_)
    · refine j_iload_n (pc := 45) hk 1 rfl dX3_unknowns_45 ?_
      exact j_iret (pc := 46) hk dX3_unknowns_46
    · refine j_iload_n (pc := 21) hk 1 rfl dX3_unknowns_21 ?_
      refine j_aload_n (pc := 22) hk 0 rfl ⟨_, rfl⟩ dX3_unknowns_22 ?_
      refine f_3_9 (pc := 23) hk (rfl) dX3_unknowns_23 ?_
      refine j_iload_n (pc := 26) hk 2 rfl dX3_unknowns_26 ?_
      refine a_iload (pc := 27) hk (isI_3_0 (rfl)) dX3_unknowns_27 (fun x2 => ?_)
      refine j_iconst (pc := 28) hk dX3_unknowns_28 (v := -1) (by decide) ?_
      refine j_icmp_ne (tgt := 36) (pc := 29) hk (by decide) dX3_unknowns_29 (fun _ => ?_) (fun _ => ?_)
      · refine j_iconst (pc := 32) hk dX3_unknowns_32 (v := 1) (by decide) ?_
        refine j_goto (tgt := 37) (pc := 33) hk (by decide) dX3_unknowns_33 ?_
        exact j_sub hk [0, 2] rfl (T3_unknowns_37 hk k4 H4 v2 v1 (1 : Int32) st)
      · refine j_iconst (pc := 36) hk dX3_unknowns_36 (v := 0) (by decide) ?_
        exact j_sub hk [0, 2] rfl (T3_unknowns_37 hk k4 H4 v2 v1 (0 : Int32) st)
set_option maxHeartbeats 1000000 in
set_option maxRecDepth 20000 in
theorem L3_unknowns_4 {g : fkG} {k : fkK} (hk : fk_ok wC g k RX3 cX3_unknowns 3 (some (.int)) 0 0) (fu : Nat) : ∀ (v1 : Int32) (v2 : Int32) (st : fkS), fk_J wC g fk_eI k 4 [(0, fk_r g 38), (1, .int v1), (2, .int v2)] [] st (fk_lp2 (B3_unknowns_4) fu v1 v2 st) := by
  induction fu with
  | zero =>
    intro v1 v2 st
    exact j_none hk
  | succ fu ih =>
    exact T3_unknowns_4 hk _ ih
def F3_unknowns (st : fkS) : Option (Int32 × fkS) :=
fk_lp2 (B3_unknowns_4) fk_fuel (0 : Int32) (0 : Int32) st
set_option maxHeartbeats 1000000 in
set_option maxRecDepth 20000 in
theorem C3_unknowns (st : fkS) {g : fkG} (l : Launch) (o : Int32 × fkS) (hF : F3_unknowns st = some o) : fk_C wC yX3_unknowns cX3_unknowns 3 (some (.int)) 0 0 l g [fk_r g 38] st (fk_eI o.1) o.2 := by
  refine fk_begin rfl (Nat.le_of_ble_eq_true rfl) (fun k hk => ?_) o hF
  have hk : fk_ok wC g k RX3 cX3_unknowns 3 (some (.int)) 0 0 := hk
  show fk_J wC g fk_eI k 0 [(0, fk_r g 38)] [] st (F3_unknowns st)
  unfold F3_unknowns
  refine j_iconst (pc := 0) hk dX3_unknowns_0 (v := 0) (by decide) ?_
  refine j_istore_n (lv' := ((1, .int (0 : Int32)) :: [(0, fk_r g 38)])) (pc := 1) hk rfl (by decide) rfl dX3_unknowns_1 ?_
  refine j_sub hk (lv' := [(0, fk_r g 38), (1, .int (0 : Int32))]) [1, 0] rfl ?_
  refine j_iconst (pc := 2) hk dX3_unknowns_2 (v := 0) (by decide) ?_
  refine j_istore_n (lv' := ((2, .int (0 : Int32)) :: [(0, fk_r g 38), (1, .int (0 : Int32))])) (pc := 3) hk rfl (by decide) rfl dX3_unknowns_3 ?_
  refine j_sub hk (lv' := [(0, fk_r g 38), (1, .int (0 : Int32)), (2, .int (0 : Int32))]) [1, 2, 0] rfl ?_
  exact j_sub hk [0, 1, 2] rfl (L3_unknowns_4 hk fk_fuel (0 : Int32) (0 : Int32) st)
theorem dX3_fillUnknowns_0 : decode cX3_fillUnknowns 0 = .ok (.iload_n 1, 1) := by decide +kernel
theorem dX3_fillUnknowns_1 : decode cX3_fillUnknowns 1 = .ok (.istore_n 2, 1) := by decide +kernel
theorem dX3_fillUnknowns_2 : decode cX3_fillUnknowns 2 = .ok (.iconst 0, 1) := by decide +kernel
theorem dX3_fillUnknowns_3 : decode cX3_fillUnknowns 3 = .ok (.istore_n 3, 1) := by decide +kernel
theorem dX3_fillUnknowns_4 : decode cX3_fillUnknowns 4 = .ok (.iload_n 3, 1) := by decide +kernel
theorem dX3_fillUnknowns_5 : decode cX3_fillUnknowns 5 = .ok (.aload_n 0, 1) := by decide +kernel
theorem dX3_fillUnknowns_6 : decode cX3_fillUnknowns 6 = .ok (.getfield 15, 3) := by decide +kernel
theorem dX3_fillUnknowns_9 : decode cX3_fillUnknowns 9 = .ok (.if_icmp .ge 43, 3) := by decide +kernel
theorem dX3_fillUnknowns_12 : decode cX3_fillUnknowns 12 = .ok (.iload_n 3, 1) := by decide +kernel
theorem dX3_fillUnknowns_13 : decode cX3_fillUnknowns 13 = .ok (.aload_n 0, 1) := by decide +kernel
theorem dX3_fillUnknowns_14 : decode cX3_fillUnknowns 14 = .ok (.getfield 9, 3) := by decide +kernel
theorem dX3_fillUnknowns_17 : decode cX3_fillUnknowns 17 = .ok (.arraylength, 1) := by decide +kernel
theorem dX3_fillUnknowns_18 : decode cX3_fillUnknowns 18 = .ok (.if_icmp .ge 34, 3) := by decide +kernel
theorem dX3_fillUnknowns_21 : decode cX3_fillUnknowns 21 = .ok (.aload_n 0, 1) := by decide +kernel
theorem dX3_fillUnknowns_22 : decode cX3_fillUnknowns 22 = .ok (.getfield 9, 3) := by decide +kernel
theorem dX3_fillUnknowns_25 : decode cX3_fillUnknowns 25 = .ok (.iload_n 3, 1) := by decide +kernel
theorem dX3_fillUnknowns_26 : decode cX3_fillUnknowns 26 = .ok (.iaload, 1) := by decide +kernel
theorem dX3_fillUnknowns_27 : decode cX3_fillUnknowns 27 = .ok (.iconst (-1), 1) := by decide +kernel
theorem dX3_fillUnknowns_28 : decode cX3_fillUnknowns 28 = .ok (.if_icmp .ne 18, 3) := by decide +kernel
theorem dX3_fillUnknowns_31 : decode cX3_fillUnknowns 31 = .ok (.aload_n 0, 1) := by decide +kernel
theorem dX3_fillUnknowns_32 : decode cX3_fillUnknowns 32 = .ok (.getfield 9, 3) := by decide +kernel
theorem dX3_fillUnknowns_35 : decode cX3_fillUnknowns 35 = .ok (.iload_n 3, 1) := by decide +kernel
theorem dX3_fillUnknowns_36 : decode cX3_fillUnknowns 36 = .ok (.iload_n 2, 1) := by decide +kernel
theorem dX3_fillUnknowns_37 : decode cX3_fillUnknowns 37 = .ok (.bipush 10, 2) := by decide +kernel
theorem dX3_fillUnknowns_39 : decode cX3_fillUnknowns 39 = .ok (.irem, 1) := by decide +kernel
theorem dX3_fillUnknowns_40 : decode cX3_fillUnknowns 40 = .ok (.iastore, 1) := by decide +kernel
theorem dX3_fillUnknowns_41 : decode cX3_fillUnknowns 41 = .ok (.iload_n 2, 1) := by decide +kernel
theorem dX3_fillUnknowns_42 : decode cX3_fillUnknowns 42 = .ok (.bipush 10, 2) := by decide +kernel
theorem dX3_fillUnknowns_44 : decode cX3_fillUnknowns 44 = .ok (.idiv, 1) := by decide +kernel
theorem dX3_fillUnknowns_45 : decode cX3_fillUnknowns 45 = .ok (.istore_n 2, 1) := by decide +kernel
theorem dX3_fillUnknowns_46 : decode cX3_fillUnknowns 46 = .ok (.iinc 3 1, 3) := by decide +kernel
theorem dX3_fillUnknowns_49 : decode cX3_fillUnknowns 49 = .ok (.goto (-45), 3) := by decide +kernel
theorem dX3_fillUnknowns_52 : decode cX3_fillUnknowns 52 = .ok (.return_, 1) := by decide +kernel
def B3_fillUnknowns_46 (k4 : Int32 → Int32 → fkS → Option (Unit × fkS)) (v2 : Int32) (v3 : Int32) (st : fkS) : Option (Unit × fkS) :=
k4 v2 (v3 + (1 : Int32)) st
set_option maxHeartbeats 1000000 in
set_option maxRecDepth 20000 in
theorem T3_fillUnknowns_46 {g : fkG} {k : fkK} (hk : fk_ok wC g k RX3 cX3_fillUnknowns 4 none 0 0) (k4 : Int32 → Int32 → fkS → Option (Unit × fkS)) (H4 : ∀ (v2 : Int32) (v3 : Int32) (st : fkS), fk_J wC g fk_eU k 4 [(0, fk_r g 38), (2, .int v2), (3, .int v3)] [] st (k4 v2 v3 st)) : ∀ (v2 : Int32) (v3 : Int32) (st : fkS), fk_J wC g fk_eU k 46 [(0, fk_r g 38), (2, .int v2), (3, .int v3)] [] st (B3_fillUnknowns_46 k4 v2 v3 st) := by
  intro v2 v3 st
  unfold B3_fillUnknowns_46
  refine j_iinc (dd := (1 : Int32)) (lv' := ((3, .int (v3 + (1 : Int32))) :: [(0, fk_r g 38), (2, .int v2)])) (pc := 46) hk 2 rfl (by decide) (by decide) rfl dX3_fillUnknowns_46 ?_
  refine j_sub hk (lv' := [(0, fk_r g 38), (2, .int v2), (3, .int (v3 + (1 : Int32)))]) [1, 2, 0] rfl ?_
  refine j_goto (tgt := 4) (pc := 49) hk (by decide) dX3_fillUnknowns_49 ?_
  exact j_sub hk [0, 1, 2] rfl (H4 v2 (v3 + (1 : Int32)) st)
def B3_fillUnknowns_4 (k4 : Int32 → Int32 → fkS → Option (Unit × fkS)) (v2 : Int32) (v3 : Int32) (st : fkS) : Option (Unit × fkS) :=
fk_let (gI st 61 38) <| fun x1 =>
if x1 ≤ v3 then
(some ((), st))
else
(if (8 : Int32) ≤ v3 then
(some ((), st))
else
(fk_chk (fk_in v3 8) <| fk_let (gA st 39 v3.toNatClampNeg) <| fun x2 =>
if x2 = (-1 : Int32) then
(fk_chk (fk_in v3 8) <| fk_let (sA st 39 v3.toNatClampNeg (fk_rem v2 (10 : Int32))) <| fun st3 =>
B3_fillUnknowns_46 k4 (v2 / (10 : Int32)) v3 st3)
else
(B3_fillUnknowns_46 k4 v2 v3 st)))
set_option maxHeartbeats 1000000 in
set_option maxRecDepth 20000 in
theorem T3_fillUnknowns_4 {g : fkG} {k : fkK} (hk : fk_ok wC g k RX3 cX3_fillUnknowns 4 none 0 0) (k4 : Int32 → Int32 → fkS → Option (Unit × fkS)) (H4 : ∀ (v2 : Int32) (v3 : Int32) (st : fkS), fk_J wC g fk_eU k 4 [(0, fk_r g 38), (2, .int v2), (3, .int v3)] [] st (k4 v2 v3 st)) : ∀ (v2 : Int32) (v3 : Int32) (st : fkS), fk_J wC g fk_eU k 4 [(0, fk_r g 38), (2, .int v2), (3, .int v3)] [] st (B3_fillUnknowns_4 k4 v2 v3 st) := by
  intro v2 v3 st
  unfold B3_fillUnknowns_4
  refine j_iload_n (pc := 4) hk 2 rfl dX3_fillUnknowns_4 ?_
  refine j_aload_n (pc := 5) hk 0 rfl ⟨_, rfl⟩ dX3_fillUnknowns_5 ?_
  refine f_3_15 (pc := 6) hk (rfl) dX3_fillUnknowns_6 (fun x1 => ?_)
  refine j_icmp_ge (tgt := 52) (pc := 9) hk (by decide) dX3_fillUnknowns_9 (fun _ => ?_) (fun _ => ?_)
  · exact j_vret (pc := 52) hk dX3_fillUnknowns_52
  · refine j_iload_n (pc := 12) hk 2 rfl dX3_fillUnknowns_12 ?_
    refine j_aload_n (pc := 13) hk 0 rfl ⟨_, rfl⟩ dX3_fillUnknowns_13 ?_
    refine f_3_9 (pc := 14) hk (rfl) dX3_fillUnknowns_14 ?_
    refine a_ilen (pc := 17) hk (isI_3_0 (rfl)) (v := 8) (by decide) dX3_fillUnknowns_17 ?_
    refine j_icmp_ge (tgt := 52) (pc := 18) hk (by decide) dX3_fillUnknowns_18 (fun _ => ?_) (fun _ => ?_)
    · exact j_vret (pc := 52) hk dX3_fillUnknowns_52
    · refine j_aload_n (pc := 21) hk 0 rfl ⟨_, rfl⟩ dX3_fillUnknowns_21 ?_
      refine f_3_9 (pc := 22) hk (rfl) dX3_fillUnknowns_22 ?_
      refine j_iload_n (pc := 25) hk 2 rfl dX3_fillUnknowns_25 ?_
      refine a_iload (pc := 26) hk (isI_3_0 (rfl)) dX3_fillUnknowns_26 (fun x2 => ?_)
      refine j_iconst (pc := 27) hk dX3_fillUnknowns_27 (v := -1) (by decide) ?_
      refine j_icmp_ne (tgt := 46) (pc := 28) hk (by decide) dX3_fillUnknowns_28 (fun _ => ?_) (fun _ => ?_)
      · refine j_aload_n (pc := 31) hk 0 rfl ⟨_, rfl⟩ dX3_fillUnknowns_31 ?_
        refine f_3_9 (pc := 32) hk (rfl) dX3_fillUnknowns_32 ?_
        refine j_iload_n (pc := 35) hk 2 rfl dX3_fillUnknowns_35 ?_
        refine j_iload_n (pc := 36) hk 1 rfl dX3_fillUnknowns_36 ?_
        refine j_bipush (pc := 37) hk dX3_fillUnknowns_37 (v := 10) (by decide) ?_
        refine j_irem (pc := 39) hk (show fk_nz (10 : Int32) = true from by decide) dX3_fillUnknowns_39 ?_
        refine a_istore (pc := 40) hk (isI_3_0 (rfl)) dX3_fillUnknowns_40 (fun st3 => ?_)
        refine j_iload_n (pc := 41) hk 1 rfl dX3_fillUnknowns_41 ?_
        refine j_bipush (pc := 42) hk dX3_fillUnknowns_42 (v := 10) (by decide) ?_
        refine j_idiv (pc := 44) hk (show fk_nz (10 : Int32) = true from by decide) dX3_fillUnknowns_44 ?_
        refine j_istore_n (lv' := ((2, .int (v2 / (10 : Int32))) :: [(0, fk_r g 38), (3, .int v3)])) (pc := 45) hk rfl (by decide) rfl dX3_fillUnknowns_45 ?_
        refine j_sub hk (lv' := [(0, fk_r g 38), (2, .int (v2 / (10 : Int32))), (3, .int v3)]) [1, 0, 2] rfl ?_
        exact j_sub hk [0, 1, 2] rfl (T3_fillUnknowns_46 hk k4 H4 (v2 / (10 : Int32)) v3 st3)
      · exact j_sub hk [0, 1, 2] rfl (T3_fillUnknowns_46 hk k4 H4 v2 v3 st)
set_option maxHeartbeats 1000000 in
set_option maxRecDepth 20000 in
theorem L3_fillUnknowns_4 {g : fkG} {k : fkK} (hk : fk_ok wC g k RX3 cX3_fillUnknowns 4 none 0 0) (fu : Nat) : ∀ (v2 : Int32) (v3 : Int32) (st : fkS), fk_J wC g fk_eU k 4 [(0, fk_r g 38), (2, .int v2), (3, .int v3)] [] st (fk_lp2 (B3_fillUnknowns_4) fu v2 v3 st) := by
  induction fu with
  | zero =>
    intro v2 v3 st
    exact j_none hk
  | succ fu ih =>
    exact T3_fillUnknowns_4 hk _ ih
def F3_fillUnknowns (p1 : Int32) (st : fkS) : Option (Unit × fkS) :=
fk_lp2 (B3_fillUnknowns_4) fk_fuel p1 (0 : Int32) st
set_option maxHeartbeats 1000000 in
set_option maxRecDepth 20000 in
theorem C3_fillUnknowns (p1 : Int32) (st : fkS) {g : fkG} (l : Launch) (o : Unit × fkS) (hF : F3_fillUnknowns p1 st = some o) : fk_C wC yX3_fillUnknowns cX3_fillUnknowns 4 none 0 0 l g [fk_r g 38, .int p1] st (fk_eU o.1) o.2 := by
  refine fk_begin rfl (Nat.le_of_ble_eq_true rfl) (fun k hk => ?_) o hF
  have hk : fk_ok wC g k RX3 cX3_fillUnknowns 4 none 0 0 := hk
  show fk_J wC g fk_eU k 0 [(0, fk_r g 38), (1, .int p1)] [] st (F3_fillUnknowns p1 st)
  unfold F3_fillUnknowns
  refine j_iload_n (pc := 0) hk 1 rfl dX3_fillUnknowns_0 ?_
  refine j_istore_n (lv' := ((2, .int p1) :: [(0, fk_r g 38), (1, .int p1)])) (pc := 1) hk rfl (by decide) rfl dX3_fillUnknowns_1 ?_
  refine j_sub hk (lv' := [(0, fk_r g 38), (1, .int p1), (2, .int p1)]) [1, 2, 0] rfl ?_
  refine j_iconst (pc := 2) hk dX3_fillUnknowns_2 (v := 0) (by decide) ?_
  refine j_istore_n (lv' := ((3, .int (0 : Int32)) :: [(0, fk_r g 38), (1, .int p1), (2, .int p1)])) (pc := 3) hk rfl (by decide) rfl dX3_fillUnknowns_3 ?_
  refine j_sub hk (lv' := [(0, fk_r g 38), (1, .int p1), (2, .int p1), (3, .int (0 : Int32))]) [1, 2, 3, 0] rfl ?_
  exact j_sub hk [0, 2, 3] rfl (L3_fillUnknowns_4 hk fk_fuel p1 (0 : Int32) st)
theorem dX4_letter_0 : decode cX4_letter 0 = .ok (.aload_n 0, 1) := by decide +kernel
theorem dX4_letter_1 : decode cX4_letter 1 = .ok (.getfield 18, 3) := by decide +kernel
theorem dX4_letter_4 : decode cX4_letter 4 = .ok (.ifnull 24, 3) := by decide +kernel
theorem dX4_letter_7 : decode cX4_letter 7 = .ok (.aload_n 0, 1) := by decide +kernel
theorem dX4_letter_8 : decode cX4_letter 8 = .ok (.getfield 15, 3) := by decide +kernel
theorem dX4_letter_11 : decode cX4_letter 11 = .ok (.ifCond .lt 17, 3) := by decide +kernel
theorem dX4_letter_14 : decode cX4_letter 14 = .ok (.aload_n 0, 1) := by decide +kernel
theorem dX4_letter_15 : decode cX4_letter 15 = .ok (.getfield 15, 3) := by decide +kernel
theorem dX4_letter_18 : decode cX4_letter 18 = .ok (.aload_n 0, 1) := by decide +kernel
theorem dX4_letter_19 : decode cX4_letter 19 = .ok (.getfield 18, 3) := by decide +kernel
theorem dX4_letter_22 : decode cX4_letter 22 = .ok (.getfield 34, 3) := by decide +kernel
theorem dX4_letter_25 : decode cX4_letter 25 = .ok (.if_icmp .lt 5, 3) := by decide +kernel
theorem dX4_letter_28 : decode cX4_letter 28 = .ok (.iconst (-1), 1) := by decide +kernel
theorem dX4_letter_29 : decode cX4_letter 29 = .ok (.ireturn, 1) := by decide +kernel
theorem dX4_letter_30 : decode cX4_letter 30 = .ok (.aload_n 0, 1) := by decide +kernel
theorem dX4_letter_31 : decode cX4_letter 31 = .ok (.getfield 18, 3) := by decide +kernel
theorem dX4_letter_34 : decode cX4_letter 34 = .ok (.getfield 115, 3) := by decide +kernel
theorem dX4_letter_37 : decode cX4_letter 37 = .ok (.aload_n 0, 1) := by decide +kernel
theorem dX4_letter_38 : decode cX4_letter 38 = .ok (.getfield 15, 3) := by decide +kernel
theorem dX4_letter_41 : decode cX4_letter 41 = .ok (.laload, 1) := by decide +kernel
theorem dX4_letter_42 : decode cX4_letter 42 = .ok (.l2i, 1) := by decide +kernel
theorem dX4_letter_43 : decode cX4_letter 43 = .ok (.ireturn, 1) := by decide +kernel
def F4_letter (st : fkS) : Option (Int32 × fkS) :=
fk_txt (gT st)
(some ((-1 : Int32), st))
(fun t1 => fk_let (gI st 81 34) <| fun x2 =>
if x2 < 0 then
(some ((-1 : Int32), st))
else
(fk_let (gI st 81 34) <| fun x3 =>
fk_txt (gT st)
(none)
(fun t4 => fk_let (gI st 103 t4) <| fun x5 =>
if x3 < x5 then
(fk_txt (gT st)
(none)
(fun t6 => fk_let (gI st 81 34) <| fun x7 =>
fk_chk (fk_in x7 160) <| fk_let (gL st (t6 + 8) x7.toNatClampNeg) <| fun x8 =>
some (x8.toInt32, st)))
else
(some ((-1 : Int32), st)))))
set_option maxHeartbeats 1000000 in
set_option maxRecDepth 20000 in
theorem C4_letter (st : fkS) {g : fkG} (l : Launch) (o : Int32 × fkS) (hF : F4_letter st = some o) : fk_C wC yX4_letter cX4_letter 1 (some (.int)) 0 0 l g [fk_r g 34] st (fk_eI o.1) o.2 := by
  refine fk_begin rfl (Nat.le_of_ble_eq_true rfl) (fun k hk => ?_) o hF
  have hk : fk_ok wC g k RX4 cX4_letter 1 (some (.int)) 0 0 := hk
  show fk_J wC g fk_eI k 0 [(0, fk_r g 34)] [] st (F4_letter st)
  unfold F4_letter
  refine j_aload_n (pc := 0) hk 0 rfl ⟨_, rfl⟩ dX4_letter_0 ?_
  refine f_4_18 (pc := 1) hk dX4_letter_1 ?_ (fun t1 ht1 => ?_)
  · refine j_ifnullN (tgt := 28) (pc := 4) hk (by decide) dX4_letter_4 ?_
    refine j_iconst (pc := 28) hk dX4_letter_28 (v := -1) (by decide) ?_
    exact j_iret (pc := 29) hk dX4_letter_29
  · refine j_ifnullR (pc := 4) hk ⟨_, rfl⟩ dX4_letter_4 ?_
    refine j_aload_n (pc := 7) hk 0 rfl ⟨_, rfl⟩ dX4_letter_7 ?_
    refine f_4_15 (pc := 8) hk (rfl) dX4_letter_8 (fun x2 => ?_)
    refine j_if_lt (tgt := 28) (pc := 11) hk (by decide) dX4_letter_11 (fun _ => ?_) (fun _ => ?_)
    · refine j_iconst (pc := 28) hk dX4_letter_28 (v := -1) (by decide) ?_
      exact j_iret (pc := 29) hk dX4_letter_29
    · refine j_aload_n (pc := 14) hk 0 rfl ⟨_, rfl⟩ dX4_letter_14 ?_
      refine f_4_15 (pc := 15) hk (rfl) dX4_letter_15 (fun x3 => ?_)
      refine j_aload_n (pc := 18) hk 0 rfl ⟨_, rfl⟩ dX4_letter_18 ?_
      refine f_4_18 (pc := 19) hk dX4_letter_19 ?_ (fun t4 ht4 => ?_)
      · exact j_none hk
      · refine f_4_34 (pc := 22) hk (ht4) dX4_letter_22 (fun x5 => ?_)
        refine j_icmp_lt (tgt := 30) (pc := 25) hk (by decide) dX4_letter_25 (fun _ => ?_) (fun _ => ?_)
        · refine j_aload_n (pc := 30) hk 0 rfl ⟨_, rfl⟩ dX4_letter_30 ?_
          refine f_4_18 (pc := 31) hk dX4_letter_31 ?_ (fun t6 ht6 => ?_)
          · exact j_none hk
          · refine f_4_115 (pc := 34) hk (ht6) dX4_letter_34 ?_
            refine j_aload_n (pc := 37) hk 0 rfl ⟨_, rfl⟩ dX4_letter_37 ?_
            refine f_4_15 (pc := 38) hk (rfl) dX4_letter_38 (fun x7 => ?_)
            refine a_lload (pc := 41) hk (isL_5_4 (ht6)) dX4_letter_41 (fun x8 => ?_)
            refine j_l2i (pc := 42) hk dX4_letter_42 ?_
            exact j_iret (pc := 43) hk dX4_letter_43
        · refine j_iconst (pc := 28) hk dX4_letter_28 (v := -1) (by decide) ?_
          exact j_iret (pc := 29) hk dX4_letter_29
theorem dX4_fail_0 : decode cX4_fail 0 = .ok (.aload_n 0, 1) := by decide +kernel
theorem dX4_fail_1 : decode cX4_fail 1 = .ok (.getfield 9, 3) := by decide +kernel
theorem dX4_fail_4 : decode cX4_fail 4 = .ok (.iconst (-1), 1) := by decide +kernel
theorem dX4_fail_5 : decode cX4_fail 5 = .ok (.if_icmp .ne 8, 3) := by decide +kernel
theorem dX4_fail_8 : decode cX4_fail 8 = .ok (.aload_n 0, 1) := by decide +kernel
theorem dX4_fail_9 : decode cX4_fail 9 = .ok (.iload_n 1, 1) := by decide +kernel
theorem dX4_fail_10 : decode cX4_fail 10 = .ok (.putfield 9, 3) := by decide +kernel
theorem dX4_fail_13 : decode cX4_fail 13 = .ok (.return_, 1) := by decide +kernel
def F4_fail (p1 : Int32) (st : fkS) : Option (Unit × fkS) :=
fk_let (gI st 80 34) <| fun x1 =>
if x1 = (-1 : Int32) then
(fk_let (sI st 80 34 p1) <| fun st2 =>
some ((), st2))
else
(some ((), st))
set_option maxHeartbeats 1000000 in
set_option maxRecDepth 20000 in
theorem C4_fail (p1 : Int32) (st : fkS) {g : fkG} (l : Launch) (o : Unit × fkS) (hF : F4_fail p1 st = some o) : fk_C wC yX4_fail cX4_fail 2 none 0 0 l g [fk_r g 34, .int p1] st (fk_eU o.1) o.2 := by
  refine fk_begin rfl (Nat.le_of_ble_eq_true rfl) (fun k hk => ?_) o hF
  have hk : fk_ok wC g k RX4 cX4_fail 2 none 0 0 := hk
  show fk_J wC g fk_eU k 0 [(0, fk_r g 34), (1, .int p1)] [] st (F4_fail p1 st)
  unfold F4_fail
  refine j_aload_n (pc := 0) hk 0 rfl ⟨_, rfl⟩ dX4_fail_0 ?_
  refine f_4_9 (pc := 1) hk (rfl) dX4_fail_1 (fun x1 => ?_)
  refine j_iconst (pc := 4) hk dX4_fail_4 (v := -1) (by decide) ?_
  refine j_icmp_ne (tgt := 13) (pc := 5) hk (by decide) dX4_fail_5 (fun _ => ?_) (fun _ => ?_)
  · refine j_aload_n (pc := 8) hk 0 rfl ⟨_, rfl⟩ dX4_fail_8 ?_
    refine j_iload_n (pc := 9) hk 1 rfl dX4_fail_9 ?_
    refine p_4_9 (pc := 10) hk (rfl) dX4_fail_10 (fun st2 => ?_)
    exact j_vret (pc := 13) hk dX4_fail_13
  · exact j_vret (pc := 13) hk dX4_fail_13
theorem dX4_expect_0 : decode cX4_expect 0 = .ok (.aload_n 0, 1) := by decide +kernel
theorem dX4_expect_1 : decode cX4_expect 1 = .ok (.getfield 9, 3) := by decide +kernel
theorem dX4_expect_4 : decode cX4_expect 4 = .ok (.iconst (-1), 1) := by decide +kernel
theorem dX4_expect_5 : decode cX4_expect 5 = .ok (.if_icmp .eq 4, 3) := by decide +kernel
theorem dX4_expect_8 : decode cX4_expect 8 = .ok (.return_, 1) := by decide +kernel
theorem dX4_expect_9 : decode cX4_expect 9 = .ok (.aload_n 0, 1) := by decide +kernel
theorem dX4_expect_10 : decode cX4_expect 10 = .ok (.invokevirtual 39, 3) := by decide +kernel
theorem dX4_expect_13 : decode cX4_expect 13 = .ok (.iload_n 1, 1) := by decide +kernel
theorem dX4_expect_14 : decode cX4_expect 14 = .ok (.if_icmp .ne 16, 3) := by decide +kernel
theorem dX4_expect_17 : decode cX4_expect 17 = .ok (.aload_n 0, 1) := by decide +kernel
theorem dX4_expect_18 : decode cX4_expect 18 = .ok (.dup, 1) := by decide +kernel
theorem dX4_expect_19 : decode cX4_expect 19 = .ok (.getfield 15, 3) := by decide +kernel
theorem dX4_expect_22 : decode cX4_expect 22 = .ok (.iconst 1, 1) := by decide +kernel
theorem dX4_expect_23 : decode cX4_expect 23 = .ok (.iadd, 1) := by decide +kernel
theorem dX4_expect_24 : decode cX4_expect 24 = .ok (.putfield 15, 3) := by decide +kernel
theorem dX4_expect_27 : decode cX4_expect 27 = .ok (.goto 11, 3) := by decide +kernel
theorem dX4_expect_30 : decode cX4_expect 30 = .ok (.aload_n 0, 1) := by decide +kernel
theorem dX4_expect_31 : decode cX4_expect 31 = .ok (.aload_n 0, 1) := by decide +kernel
theorem dX4_expect_32 : decode cX4_expect 32 = .ok (.getfield 15, 3) := by decide +kernel
theorem dX4_expect_35 : decode cX4_expect 35 = .ok (.invokevirtual 60, 3) := by decide +kernel
theorem dX4_expect_38 : decode cX4_expect 38 = .ok (.return_, 1) := by decide +kernel
def F4_expect (p1 : Int32) (st : fkS) : Option (Unit × fkS) :=
fk_let (gI st 80 34) <| fun x1 =>
if x1 = (-1 : Int32) then
(fk_bind (F4_letter st) <| fun x2 st3 =>
if x2 = p1 then
(fk_let (gI st3 81 34) <| fun x4 =>
fk_let (sI st3 81 34 (x4 + (1 : Int32))) <| fun st5 =>
some ((), st5))
else
(fk_let (gI st3 81 34) <| fun x6 =>
fk_bind (F4_fail x6 st3) <| fun _ st7 =>
some ((), st7)))
else
(some ((), st))
set_option maxHeartbeats 1000000 in
set_option maxRecDepth 20000 in
theorem C4_expect (p1 : Int32) (st : fkS) {g : fkG} (l : Launch) (o : Unit × fkS) (hF : F4_expect p1 st = some o) : fk_C wC yX4_expect cX4_expect 2 none 1 21 l g [fk_r g 34, .int p1] st (fk_eU o.1) o.2 := by
  refine fk_begin rfl (Nat.le_of_ble_eq_true rfl) (fun k hk => ?_) o hF
  have hk : fk_ok wC g k RX4 cX4_expect 2 none 1 21 := hk
  show fk_J wC g fk_eU k 0 [(0, fk_r g 34), (1, .int p1)] [] st (F4_expect p1 st)
  unfold F4_expect
  refine j_aload_n (pc := 0) hk 0 rfl ⟨_, rfl⟩ dX4_expect_0 ?_
  refine f_4_9 (pc := 1) hk (rfl) dX4_expect_1 (fun x1 => ?_)
  refine j_iconst (pc := 4) hk dX4_expect_4 (v := -1) (by decide) ?_
  refine j_icmp_eq (tgt := 9) (pc := 5) hk (by decide) dX4_expect_5 (fun _ => ?_) (fun _ => ?_)
  · refine j_aload_n (pc := 9) hk 0 rfl ⟨_, rfl⟩ dX4_expect_9 ?_
    refine j_callVi (pc := 10) hk [] [] rfl (fun l o hq9 => C4_letter st l o hq9) (rcv_4 (rfl)) yv_X4_letter ml_4_39 rfl (Nat.le_of_ble_eq_true rfl) (Nat.le_of_ble_eq_true rfl) (Nat.le_of_ble_eq_true rfl) dX4_expect_10 (fun x2 st3 => ?_)
    refine j_iload_n (pc := 13) hk 1 rfl dX4_expect_13 ?_
    refine j_icmp_ne (tgt := 30) (pc := 14) hk (by decide) dX4_expect_14 (fun _ => ?_) (fun _ => ?_)
    · refine j_aload_n (pc := 17) hk 0 rfl ⟨_, rfl⟩ dX4_expect_17 ?_
      refine j_dup (pc := 18) hk rfl dX4_expect_18 ?_
      refine f_4_15 (pc := 19) hk (rfl) dX4_expect_19 (fun x4 => ?_)
      refine j_iconst (pc := 22) hk dX4_expect_22 (v := 1) (by decide) ?_
      refine j_iadd (pc := 23) hk dX4_expect_23 ?_
      refine p_4_15 (pc := 24) hk (rfl) dX4_expect_24 (fun st5 => ?_)
      refine j_goto (tgt := 38) (pc := 27) hk (by decide) dX4_expect_27 ?_
      exact j_vret (pc := 38) hk dX4_expect_38
    · refine j_aload_n (pc := 30) hk 0 rfl ⟨_, rfl⟩ dX4_expect_30 ?_
      refine j_aload_n (pc := 31) hk 0 rfl ⟨_, rfl⟩ dX4_expect_31 ?_
      refine f_4_15 (pc := 32) hk (rfl) dX4_expect_32 (fun x6 => ?_)
      refine j_callVv (pc := 35) hk [.int x6] [] rfl (fun l o hq9 => C4_fail x6 st3 l o hq9) (rcv_4 (rfl)) yv_X4_fail ml_4_60 rfl (Nat.le_of_ble_eq_true rfl) (Nat.le_of_ble_eq_true rfl) (Nat.le_of_ble_eq_true rfl) dX4_expect_35 (fun _ st7 => ?_)
      exact j_vret (pc := 38) hk dX4_expect_38
  · exact j_vret (pc := 8) hk dX4_expect_8
theorem dX4_wordThatBeginsWith_0 : decode cX4_wordThatBeginsWith 0 = .ok (.iload_n 0, 1) := by decide +kernel
theorem dX4_wordThatBeginsWith_1 : decode cX4_wordThatBeginsWith 1 = .ok (.lookupswitch 77 #[(98, 59), (103, 68), (104, 62), (105, 71), (115, 65), (119, 74)], 59) := by decide +kernel
theorem dX4_wordThatBeginsWith_60 : decode cX4_wordThatBeginsWith 60 = .ok (.ldc 100, 2) := by decide +kernel
theorem dX4_wordThatBeginsWith_62 : decode cX4_wordThatBeginsWith 62 = .ok (.areturn, 1) := by decide +kernel
theorem dX4_wordThatBeginsWith_63 : decode cX4_wordThatBeginsWith 63 = .ok (.ldc 102, 2) := by decide +kernel
theorem dX4_wordThatBeginsWith_65 : decode cX4_wordThatBeginsWith 65 = .ok (.areturn, 1) := by decide +kernel
theorem dX4_wordThatBeginsWith_66 : decode cX4_wordThatBeginsWith 66 = .ok (.ldc 103, 2) := by decide +kernel
theorem dX4_wordThatBeginsWith_68 : decode cX4_wordThatBeginsWith 68 = .ok (.areturn, 1) := by decide +kernel
theorem dX4_wordThatBeginsWith_69 : decode cX4_wordThatBeginsWith 69 = .ok (.ldc 104, 2) := by decide +kernel
theorem dX4_wordThatBeginsWith_71 : decode cX4_wordThatBeginsWith 71 = .ok (.areturn, 1) := by decide +kernel
theorem dX4_wordThatBeginsWith_72 : decode cX4_wordThatBeginsWith 72 = .ok (.ldc 106, 2) := by decide +kernel
theorem dX4_wordThatBeginsWith_74 : decode cX4_wordThatBeginsWith 74 = .ok (.areturn, 1) := by decide +kernel
theorem dX4_wordThatBeginsWith_75 : decode cX4_wordThatBeginsWith 75 = .ok (.ldc 108, 2) := by decide +kernel
theorem dX4_wordThatBeginsWith_77 : decode cX4_wordThatBeginsWith 77 = .ok (.areturn, 1) := by decide +kernel
theorem dX4_wordThatBeginsWith_78 : decode cX4_wordThatBeginsWith 78 = .ok (.ldc 110, 2) := by decide +kernel
theorem dX4_wordThatBeginsWith_80 : decode cX4_wordThatBeginsWith 80 = .ok (.areturn, 1) := by decide +kernel
def F4_wordThatBeginsWith (p0 : Int32) (st : fkS) : Option (Nat × fkS) :=
if p0 = (98 : Int32) then
(some (0, st))
else
(if p0 = (103 : Int32) then
(some (3, st))
else
(if p0 = (104 : Int32) then
(some (1, st))
else
(if p0 = (105 : Int32) then
(some (4, st))
else
(if p0 = (115 : Int32) then
(some (2, st))
else
(if p0 = (119 : Int32) then
(some (5, st))
else
(some (6, st)))))))
set_option maxHeartbeats 1000000 in
set_option maxRecDepth 20000 in
theorem C4_wordThatBeginsWith (p0 : Int32) (st : fkS) {g : fkG} (l : Launch) (o : Nat × fkS) (hF : F4_wordThatBeginsWith p0 st = some o) : fk_C wC yX4_wordThatBeginsWith cX4_wordThatBeginsWith 1 (some (.object "java/lang/String")) 0 0 l g [.int p0] st ((fk_eQ g) o.1) o.2 := by
  refine fk_begin rfl (Nat.le_of_ble_eq_true rfl) (fun k hk => ?_) o hF
  have hk : fk_ok wC g k RX4 cX4_wordThatBeginsWith 1 (some (.object "java/lang/String")) 0 0 := hk
  show fk_J wC g (fk_eQ g) k 0 [(0, .int p0)] [] st (F4_wordThatBeginsWith p0 st)
  unfold F4_wordThatBeginsWith
  refine j_iload_n (pc := 0) hk 0 rfl dX4_wordThatBeginsWith_0 ?_
  refine j_case (pc := 1) hk (fun n1 => ?_) (fun n1 => ?_)
  · refine j_lsw (off := 59) (tgt := 60) (pc := 1) hk (by decide) (by rw [n1]; decide) (by decide) dX4_wordThatBeginsWith_1 ?_
    refine j_ldcS (q := 0) (pc := 60) hk dX4_wordThatBeginsWith_60 (by decide +kernel) ?_
    exact j_qret (pc := 62) hk dX4_wordThatBeginsWith_62
  · refine j_case (pc := 1) hk (fun n2 => ?_) (fun n2 => ?_)
    · refine j_lsw (off := 68) (tgt := 69) (pc := 1) hk (by decide) (by rw [n2]; decide) (by decide) dX4_wordThatBeginsWith_1 ?_
      refine j_ldcS (q := 3) (pc := 69) hk dX4_wordThatBeginsWith_69 (by decide +kernel) ?_
      exact j_qret (pc := 71) hk dX4_wordThatBeginsWith_71
    · refine j_case (pc := 1) hk (fun n3 => ?_) (fun n3 => ?_)
      · refine j_lsw (off := 62) (tgt := 63) (pc := 1) hk (by decide) (by rw [n3]; decide) (by decide) dX4_wordThatBeginsWith_1 ?_
        refine j_ldcS (q := 1) (pc := 63) hk dX4_wordThatBeginsWith_63 (by decide +kernel) ?_
        exact j_qret (pc := 65) hk dX4_wordThatBeginsWith_65
      · refine j_case (pc := 1) hk (fun n4 => ?_) (fun n4 => ?_)
        · refine j_lsw (off := 71) (tgt := 72) (pc := 1) hk (by decide) (by rw [n4]; decide) (by decide) dX4_wordThatBeginsWith_1 ?_
          refine j_ldcS (q := 4) (pc := 72) hk dX4_wordThatBeginsWith_72 (by decide +kernel) ?_
          exact j_qret (pc := 74) hk dX4_wordThatBeginsWith_74
        · refine j_case (pc := 1) hk (fun n5 => ?_) (fun n5 => ?_)
          · refine j_lsw (off := 65) (tgt := 66) (pc := 1) hk (by decide) (by rw [n5]; decide) (by decide) dX4_wordThatBeginsWith_1 ?_
            refine j_ldcS (q := 2) (pc := 66) hk dX4_wordThatBeginsWith_66 (by decide +kernel) ?_
            exact j_qret (pc := 68) hk dX4_wordThatBeginsWith_68
          · refine j_case (pc := 1) hk (fun n6 => ?_) (fun n6 => ?_)
            · refine j_lsw (off := 74) (tgt := 75) (pc := 1) hk (by decide) (by rw [n6]; decide) (by decide) dX4_wordThatBeginsWith_1 ?_
              refine j_ldcS (q := 5) (pc := 75) hk dX4_wordThatBeginsWith_75 (by decide +kernel) ?_
              exact j_qret (pc := 77) hk dX4_wordThatBeginsWith_77
            · have mn1 := lv_neT (a := 98) n1 (by decide)
              have mn2 := lv_neT (a := 103) n2 (by decide)
              have mn3 := lv_neT (a := 104) n3 (by decide)
              have mn4 := lv_neT (a := 105) n4 (by decide)
              have mn5 := lv_neT (a := 115) n5 (by decide)
              have mn6 := lv_neT (a := 119) n6 (by decide)
              refine j_lsw (off := 77) (tgt := 78) (pc := 1) hk (by decide) (fk_lsw (by intro q hq; simp only [List.mem_cons, List.not_mem_nil, or_false] at hq; rcases hq with rfl | rfl | rfl | rfl | rfl | rfl <;> simpa using by assumption)) (by decide) dX4_wordThatBeginsWith_1 ?_
              refine j_ldcS (q := 6) (pc := 78) hk dX4_wordThatBeginsWith_78 (by decide +kernel) ?_
              exact j_qret (pc := 80) hk dX4_wordThatBeginsWith_80
theorem dX4_numbersBehind_0 : decode cX4_numbersBehind 0 = .ok (.iload_n 0, 1) := by decide +kernel
theorem dX4_numbersBehind_1 : decode cX4_numbersBehind 1 = .ok (.bipush 98, 2) := by decide +kernel
theorem dX4_numbersBehind_3 : decode cX4_numbersBehind 3 = .ok (.if_icmp .eq 9, 3) := by decide +kernel
theorem dX4_numbersBehind_6 : decode cX4_numbersBehind 6 = .ok (.iload_n 0, 1) := by decide +kernel
theorem dX4_numbersBehind_7 : decode cX4_numbersBehind 7 = .ok (.bipush 103, 2) := by decide +kernel
theorem dX4_numbersBehind_9 : decode cX4_numbersBehind 9 = .ok (.if_icmp .ne 7, 3) := by decide +kernel
theorem dX4_numbersBehind_12 : decode cX4_numbersBehind 12 = .ok (.iconst 3, 1) := by decide +kernel
theorem dX4_numbersBehind_13 : decode cX4_numbersBehind 13 = .ok (.goto 4, 3) := by decide +kernel
theorem dX4_numbersBehind_16 : decode cX4_numbersBehind 16 = .ok (.iconst 1, 1) := by decide +kernel
theorem dX4_numbersBehind_17 : decode cX4_numbersBehind 17 = .ok (.ireturn, 1) := by decide +kernel
def F4_numbersBehind (p0 : Int32) (st : fkS) : Option (Int32 × fkS) :=
if p0 = (98 : Int32) then
(some ((3 : Int32), st))
else
(if p0 = (103 : Int32) then
(some ((3 : Int32), st))
else
(some ((1 : Int32), st)))
set_option maxHeartbeats 1000000 in
set_option maxRecDepth 20000 in
theorem C4_numbersBehind (p0 : Int32) (st : fkS) {g : fkG} (l : Launch) (o : Int32 × fkS) (hF : F4_numbersBehind p0 st = some o) : fk_C wC yX4_numbersBehind cX4_numbersBehind 1 (some (.int)) 0 0 l g [.int p0] st (fk_eI o.1) o.2 := by
  refine fk_begin rfl (Nat.le_of_ble_eq_true rfl) (fun k hk => ?_) o hF
  have hk : fk_ok wC g k RX4 cX4_numbersBehind 1 (some (.int)) 0 0 := hk
  show fk_J wC g fk_eI k 0 [(0, .int p0)] [] st (F4_numbersBehind p0 st)
  unfold F4_numbersBehind
  refine j_iload_n (pc := 0) hk 0 rfl dX4_numbersBehind_0 ?_
  refine j_bipush (pc := 1) hk dX4_numbersBehind_1 (v := 98) (by decide) ?_
  refine j_icmp_eq (tgt := 12) (pc := 3) hk (by decide) dX4_numbersBehind_3 (fun _ => ?_) (fun _ => ?_)
  · refine j_iconst (pc := 12) hk dX4_numbersBehind_12 (v := 3) (by decide) ?_
    refine j_goto (tgt := 17) (pc := 13) hk (by decide) dX4_numbersBehind_13 ?_
    exact j_iret (pc := 17) hk dX4_numbersBehind_17
  · refine j_iload_n (pc := 6) hk 0 rfl dX4_numbersBehind_6 ?_
    refine j_bipush (pc := 7) hk dX4_numbersBehind_7 (v := 103) (by decide) ?_
    refine j_icmp_ne (tgt := 16) (pc := 9) hk (by decide) dX4_numbersBehind_9 (fun _ => ?_) (fun _ => ?_)
    · refine j_iconst (pc := 12) hk dX4_numbersBehind_12 (v := 3) (by decide) ?_
      refine j_goto (tgt := 17) (pc := 13) hk (by decide) dX4_numbersBehind_13 ?_
      exact j_iret (pc := 17) hk dX4_numbersBehind_17
    · refine j_iconst (pc := 16) hk dX4_numbersBehind_16 (v := 1) (by decide) ?_
      exact j_iret (pc := 17) hk dX4_numbersBehind_17
theorem dX4_most_0 : decode cX4_most 0 = .ok (.iload_n 0, 1) := by decide +kernel
theorem dX4_most_1 : decode cX4_most 1 = .ok (.lookupswitch 72 #[(98, 35), (103, 57), (104, 69)], 35) := by decide +kernel
theorem dX4_most_36 : decode cX4_most 36 = .ok (.iload_n 1, 1) := by decide +kernel
theorem dX4_most_37 : decode cX4_most 37 = .ok (.ifCond .ne 8, 3) := by decide +kernel
theorem dX4_most_40 : decode cX4_most 40 = .ok (.bipush 6, 2) := by decide +kernel
theorem dX4_most_42 : decode cX4_most 42 = .ok (.goto 15, 3) := by decide +kernel
theorem dX4_most_45 : decode cX4_most 45 = .ok (.iload_n 1, 1) := by decide +kernel
theorem dX4_most_46 : decode cX4_most 46 = .ok (.iconst 1, 1) := by decide +kernel
theorem dX4_most_47 : decode cX4_most 47 = .ok (.if_icmp .ne 8, 3) := by decide +kernel
theorem dX4_most_50 : decode cX4_most 50 = .ok (.bipush 9, 2) := by decide +kernel
theorem dX4_most_52 : decode cX4_most 52 = .ok (.goto 5, 3) := by decide +kernel
theorem dX4_most_55 : decode cX4_most 55 = .ok (.bipush 19, 2) := by decide +kernel
theorem dX4_most_57 : decode cX4_most 57 = .ok (.ireturn, 1) := by decide +kernel
theorem dX4_most_58 : decode cX4_most 58 = .ok (.iload_n 1, 1) := by decide +kernel
theorem dX4_most_59 : decode cX4_most 59 = .ok (.iconst 1, 1) := by decide +kernel
theorem dX4_most_60 : decode cX4_most 60 = .ok (.if_icmp .ne 7, 3) := by decide +kernel
theorem dX4_most_63 : decode cX4_most 63 = .ok (.iconst 4, 1) := by decide +kernel
theorem dX4_most_64 : decode cX4_most 64 = .ok (.goto 5, 3) := by decide +kernel
theorem dX4_most_67 : decode cX4_most 67 = .ok (.bipush 7, 2) := by decide +kernel
theorem dX4_most_69 : decode cX4_most 69 = .ok (.ireturn, 1) := by decide +kernel
theorem dX4_most_70 : decode cX4_most 70 = .ok (.bipush 9, 2) := by decide +kernel
theorem dX4_most_72 : decode cX4_most 72 = .ok (.ireturn, 1) := by decide +kernel
theorem dX4_most_73 : decode cX4_most 73 = .ok (.bipush 7, 2) := by decide +kernel
theorem dX4_most_75 : decode cX4_most 75 = .ok (.ireturn, 1) := by decide +kernel
def F4_most (p0 : Int32) (p1 : Int32) (st : fkS) : Option (Int32 × fkS) :=
if p0 = (98 : Int32) then
(if p1 = 0 then
(some ((6 : Int32), st))
else
(if p1 = (1 : Int32) then
(some ((9 : Int32), st))
else
(some ((19 : Int32), st))))
else
(if p0 = (103 : Int32) then
(if p1 = (1 : Int32) then
(some ((4 : Int32), st))
else
(some ((7 : Int32), st)))
else
(if p0 = (104 : Int32) then
(some ((9 : Int32), st))
else
(some ((7 : Int32), st))))
set_option maxHeartbeats 1000000 in
set_option maxRecDepth 20000 in
theorem C4_most (p0 : Int32) (p1 : Int32) (st : fkS) {g : fkG} (l : Launch) (o : Int32 × fkS) (hF : F4_most p0 p1 st = some o) : fk_C wC yX4_most cX4_most 2 (some (.int)) 0 0 l g [.int p0, .int p1] st (fk_eI o.1) o.2 := by
  refine fk_begin rfl (Nat.le_of_ble_eq_true rfl) (fun k hk => ?_) o hF
  have hk : fk_ok wC g k RX4 cX4_most 2 (some (.int)) 0 0 := hk
  show fk_J wC g fk_eI k 0 [(0, .int p0), (1, .int p1)] [] st (F4_most p0 p1 st)
  unfold F4_most
  refine j_iload_n (pc := 0) hk 0 rfl dX4_most_0 ?_
  refine j_case (pc := 1) hk (fun n1 => ?_) (fun n1 => ?_)
  · refine j_lsw (off := 35) (tgt := 36) (pc := 1) hk (by decide) (by rw [n1]; decide) (by decide) dX4_most_1 ?_
    refine j_iload_n (pc := 36) hk 1 rfl dX4_most_36 ?_
    refine j_if_ne (tgt := 45) (pc := 37) hk (by decide) dX4_most_37 (fun _ => ?_) (fun _ => ?_)
    · refine j_bipush (pc := 40) hk dX4_most_40 (v := 6) (by decide) ?_
      refine j_goto (tgt := 57) (pc := 42) hk (by decide) dX4_most_42 ?_
      exact j_iret (pc := 57) hk dX4_most_57
    · refine j_iload_n (pc := 45) hk 1 rfl dX4_most_45 ?_
      refine j_iconst (pc := 46) hk dX4_most_46 (v := 1) (by decide) ?_
      refine j_icmp_ne (tgt := 55) (pc := 47) hk (by decide) dX4_most_47 (fun _ => ?_) (fun _ => ?_)
      · refine j_bipush (pc := 50) hk dX4_most_50 (v := 9) (by decide) ?_
        refine j_goto (tgt := 57) (pc := 52) hk (by decide) dX4_most_52 ?_
        exact j_iret (pc := 57) hk dX4_most_57
      · refine j_bipush (pc := 55) hk dX4_most_55 (v := 19) (by decide) ?_
        exact j_iret (pc := 57) hk dX4_most_57
  · refine j_case (pc := 1) hk (fun n2 => ?_) (fun n2 => ?_)
    · refine j_lsw (off := 57) (tgt := 58) (pc := 1) hk (by decide) (by rw [n2]; decide) (by decide) dX4_most_1 ?_
      refine j_iload_n (pc := 58) hk 1 rfl dX4_most_58 ?_
      refine j_iconst (pc := 59) hk dX4_most_59 (v := 1) (by decide) ?_
      refine j_icmp_ne (tgt := 67) (pc := 60) hk (by decide) dX4_most_60 (fun _ => ?_) (fun _ => ?_)
      · refine j_iconst (pc := 63) hk dX4_most_63 (v := 4) (by decide) ?_
        refine j_goto (tgt := 69) (pc := 64) hk (by decide) dX4_most_64 ?_
        exact j_iret (pc := 69) hk dX4_most_69
      · refine j_bipush (pc := 67) hk dX4_most_67 (v := 7) (by decide) ?_
        exact j_iret (pc := 69) hk dX4_most_69
    · refine j_case (pc := 1) hk (fun n3 => ?_) (fun n3 => ?_)
      · refine j_lsw (off := 69) (tgt := 70) (pc := 1) hk (by decide) (by rw [n3]; decide) (by decide) dX4_most_1 ?_
        refine j_bipush (pc := 70) hk dX4_most_70 (v := 9) (by decide) ?_
        exact j_iret (pc := 72) hk dX4_most_72
      · have mn1 := lv_neT (a := 98) n1 (by decide)
        have mn2 := lv_neT (a := 103) n2 (by decide)
        have mn3 := lv_neT (a := 104) n3 (by decide)
        refine j_lsw (off := 72) (tgt := 73) (pc := 1) hk (by decide) (fk_lsw (by intro q hq; simp only [List.mem_cons, List.not_mem_nil, or_false] at hq; rcases hq with rfl | rfl | rfl <;> simpa using by assumption)) (by decide) dX4_most_1 ?_
        refine j_bipush (pc := 73) hk dX4_most_73 (v := 7) (by decide) ?_
        exact j_iret (pc := 75) hk dX4_most_75
theorem dX4_digit_0 : decode cX4_digit 0 = .ok (.aload_n 0, 1) := by decide +kernel
theorem dX4_digit_1 : decode cX4_digit 1 = .ok (.invokevirtual 39, 3) := by decide +kernel
theorem dX4_digit_4 : decode cX4_digit 4 = .ok (.istore_n 1, 1) := by decide +kernel
theorem dX4_digit_5 : decode cX4_digit 5 = .ok (.iload_n 1, 1) := by decide +kernel
theorem dX4_digit_6 : decode cX4_digit 6 = .ok (.bipush 48, 2) := by decide +kernel
theorem dX4_digit_8 : decode cX4_digit 8 = .ok (.if_icmp .lt 9, 3) := by decide +kernel
theorem dX4_digit_11 : decode cX4_digit 11 = .ok (.iload_n 1, 1) := by decide +kernel
theorem dX4_digit_12 : decode cX4_digit 12 = .ok (.bipush 57, 2) := by decide +kernel
theorem dX4_digit_14 : decode cX4_digit 14 = .ok (.if_icmp .le 7, 3) := by decide +kernel
theorem dX4_digit_17 : decode cX4_digit 17 = .ok (.iconst (-1), 1) := by decide +kernel
theorem dX4_digit_18 : decode cX4_digit 18 = .ok (.goto 7, 3) := by decide +kernel
theorem dX4_digit_21 : decode cX4_digit 21 = .ok (.iload_n 1, 1) := by decide +kernel
theorem dX4_digit_22 : decode cX4_digit 22 = .ok (.bipush 48, 2) := by decide +kernel
theorem dX4_digit_24 : decode cX4_digit 24 = .ok (.isub, 1) := by decide +kernel
theorem dX4_digit_25 : decode cX4_digit 25 = .ok (.ireturn, 1) := by decide +kernel
def F4_digit (st : fkS) : Option (Int32 × fkS) :=
fk_bind (F4_letter st) <| fun x1 st2 =>
if x1 < (48 : Int32) then
(some ((-1 : Int32), st2))
else
(if x1 ≤ (57 : Int32) then
(some ((x1 - (48 : Int32)), st2))
else
(some ((-1 : Int32), st2)))
set_option maxHeartbeats 1000000 in
set_option maxRecDepth 20000 in
theorem C4_digit (st : fkS) {g : fkG} (l : Launch) (o : Int32 × fkS) (hF : F4_digit st = some o) : fk_C wC yX4_digit cX4_digit 2 (some (.int)) 1 20 l g [fk_r g 34] st (fk_eI o.1) o.2 := by
  refine fk_begin rfl (Nat.le_of_ble_eq_true rfl) (fun k hk => ?_) o hF
  have hk : fk_ok wC g k RX4 cX4_digit 2 (some (.int)) 1 20 := hk
  show fk_J wC g fk_eI k 0 [(0, fk_r g 34)] [] st (F4_digit st)
  unfold F4_digit
  refine j_aload_n (pc := 0) hk 0 rfl ⟨_, rfl⟩ dX4_digit_0 ?_
  refine j_callVi (pc := 1) hk [] [] rfl (fun l o hq9 => C4_letter st l o hq9) (rcv_4 (rfl)) yv_X4_letter ml_4_39 rfl (Nat.le_of_ble_eq_true rfl) (Nat.le_of_ble_eq_true rfl) (Nat.le_of_ble_eq_true rfl) dX4_digit_1 (fun x1 st2 => ?_)
  refine j_istore_n (lv' := ((1, .int x1) :: [(0, fk_r g 34)])) (pc := 4) hk rfl (by decide) rfl dX4_digit_4 ?_
  refine j_sub hk (lv' := [(0, fk_r g 34), (1, .int x1)]) [1, 0] rfl ?_
  refine j_iload_n (pc := 5) hk 1 rfl dX4_digit_5 ?_
  refine j_bipush (pc := 6) hk dX4_digit_6 (v := 48) (by decide) ?_
  refine j_icmp_lt (tgt := 17) (pc := 8) hk (by decide) dX4_digit_8 (fun _ => ?_) (fun _ => ?_)
  · refine j_iconst (pc := 17) hk dX4_digit_17 (v := -1) (by decide) ?_
    refine j_goto (tgt := 25) (pc := 18) hk (by decide) dX4_digit_18 ?_
    exact j_iret (pc := 25) hk dX4_digit_25
  · refine j_iload_n (pc := 11) hk 1 rfl dX4_digit_11 ?_
    refine j_bipush (pc := 12) hk dX4_digit_12 (v := 57) (by decide) ?_
    refine j_icmp_le (tgt := 21) (pc := 14) hk (by decide) dX4_digit_14 (fun _ => ?_) (fun _ => ?_)
    · refine j_iload_n (pc := 21) hk 1 rfl dX4_digit_21 ?_
      refine j_bipush (pc := 22) hk dX4_digit_22 (v := 48) (by decide) ?_
      refine j_isub (pc := 24) hk dX4_digit_24 ?_
      exact j_iret (pc := 25) hk dX4_digit_25
    · refine j_iconst (pc := 17) hk dX4_digit_17 (v := -1) (by decide) ?_
      refine j_goto (tgt := 25) (pc := 18) hk (by decide) dX4_digit_18 ?_
      exact j_iret (pc := 25) hk dX4_digit_25
theorem dX4_readNumber_0 : decode cX4_readNumber 0 = .ok (.aload_n 0, 1) := by decide +kernel
theorem dX4_readNumber_1 : decode cX4_readNumber 1 = .ok (.getfield 15, 3) := by decide +kernel
theorem dX4_readNumber_4 : decode cX4_readNumber 4 = .ok (.istore_n 2, 1) := by decide +kernel
theorem dX4_readNumber_5 : decode cX4_readNumber 5 = .ok (.aload_n 0, 1) := by decide +kernel
theorem dX4_readNumber_6 : decode cX4_readNumber 6 = .ok (.invokevirtual 112, 3) := by decide +kernel
theorem dX4_readNumber_9 : decode cX4_readNumber 9 = .ok (.istore_n 3, 1) := by decide +kernel
theorem dX4_readNumber_10 : decode cX4_readNumber 10 = .ok (.iload_n 3, 1) := by decide +kernel
theorem dX4_readNumber_11 : decode cX4_readNumber 11 = .ok (.iconst (-1), 1) := by decide +kernel
theorem dX4_readNumber_12 : decode cX4_readNumber 12 = .ok (.if_icmp .ne 13, 3) := by decide +kernel
theorem dX4_readNumber_15 : decode cX4_readNumber 15 = .ok (.aload_n 0, 1) := by decide +kernel
theorem dX4_readNumber_16 : decode cX4_readNumber 16 = .ok (.aload_n 0, 1) := by decide +kernel
theorem dX4_readNumber_17 : decode cX4_readNumber 17 = .ok (.getfield 15, 3) := by decide +kernel
theorem dX4_readNumber_20 : decode cX4_readNumber 20 = .ok (.invokevirtual 60, 3) := by decide +kernel
theorem dX4_readNumber_23 : decode cX4_readNumber 23 = .ok (.iconst 0, 1) := by decide +kernel
theorem dX4_readNumber_24 : decode cX4_readNumber 24 = .ok (.ireturn, 1) := by decide +kernel
theorem dX4_readNumber_25 : decode cX4_readNumber 25 = .ok (.aload_n 0, 1) := by decide +kernel
theorem dX4_readNumber_26 : decode cX4_readNumber 26 = .ok (.dup, 1) := by decide +kernel
theorem dX4_readNumber_27 : decode cX4_readNumber 27 = .ok (.getfield 15, 3) := by decide +kernel
theorem dX4_readNumber_30 : decode cX4_readNumber 30 = .ok (.iconst 1, 1) := by decide +kernel
theorem dX4_readNumber_31 : decode cX4_readNumber 31 = .ok (.iadd, 1) := by decide +kernel
theorem dX4_readNumber_32 : decode cX4_readNumber 32 = .ok (.putfield 15, 3) := by decide +kernel
theorem dX4_readNumber_35 : decode cX4_readNumber 35 = .ok (.aload_n 0, 1) := by decide +kernel
theorem dX4_readNumber_36 : decode cX4_readNumber 36 = .ok (.invokevirtual 112, 3) := by decide +kernel
theorem dX4_readNumber_39 : decode cX4_readNumber 39 = .ok (.istore 4, 2) := by decide +kernel
theorem dX4_readNumber_41 : decode cX4_readNumber 41 = .ok (.iload 4, 2) := by decide +kernel
theorem dX4_readNumber_43 : decode cX4_readNumber 43 = .ok (.iconst (-1), 1) := by decide +kernel
theorem dX4_readNumber_44 : decode cX4_readNumber 44 = .ok (.if_icmp .eq 21, 3) := by decide +kernel
theorem dX4_readNumber_47 : decode cX4_readNumber 47 = .ok (.aload_n 0, 1) := by decide +kernel
theorem dX4_readNumber_48 : decode cX4_readNumber 48 = .ok (.dup, 1) := by decide +kernel
theorem dX4_readNumber_49 : decode cX4_readNumber 49 = .ok (.getfield 15, 3) := by decide +kernel
theorem dX4_readNumber_52 : decode cX4_readNumber 52 = .ok (.iconst 1, 1) := by decide +kernel
theorem dX4_readNumber_53 : decode cX4_readNumber 53 = .ok (.iadd, 1) := by decide +kernel
theorem dX4_readNumber_54 : decode cX4_readNumber 54 = .ok (.putfield 15, 3) := by decide +kernel
theorem dX4_readNumber_57 : decode cX4_readNumber 57 = .ok (.bipush 10, 2) := by decide +kernel
theorem dX4_readNumber_59 : decode cX4_readNumber 59 = .ok (.iload_n 3, 1) := by decide +kernel
theorem dX4_readNumber_60 : decode cX4_readNumber 60 = .ok (.imul, 1) := by decide +kernel
theorem dX4_readNumber_61 : decode cX4_readNumber 61 = .ok (.iload 4, 2) := by decide +kernel
theorem dX4_readNumber_63 : decode cX4_readNumber 63 = .ok (.iadd, 1) := by decide +kernel
theorem dX4_readNumber_64 : decode cX4_readNumber 64 = .ok (.istore_n 3, 1) := by decide +kernel
theorem dX4_readNumber_65 : decode cX4_readNumber 65 = .ok (.iload_n 3, 1) := by decide +kernel
theorem dX4_readNumber_66 : decode cX4_readNumber 66 = .ok (.iload_n 1, 1) := by decide +kernel
theorem dX4_readNumber_67 : decode cX4_readNumber 67 = .ok (.if_icmp .le 8, 3) := by decide +kernel
theorem dX4_readNumber_70 : decode cX4_readNumber 70 = .ok (.aload_n 0, 1) := by decide +kernel
theorem dX4_readNumber_71 : decode cX4_readNumber 71 = .ok (.iload_n 2, 1) := by decide +kernel
theorem dX4_readNumber_72 : decode cX4_readNumber 72 = .ok (.invokevirtual 60, 3) := by decide +kernel
theorem dX4_readNumber_75 : decode cX4_readNumber 75 = .ok (.iload_n 3, 1) := by decide +kernel
theorem dX4_readNumber_76 : decode cX4_readNumber 76 = .ok (.ireturn, 1) := by decide +kernel
def B4_readNumber_65 (v1 : Int32) (v2 : Int32) (v3 : Int32) (st : fkS) : Option (Int32 × fkS) :=
if v3 ≤ v1 then
(some (v3, st))
else
(fk_bind (F4_fail v2 st) <| fun _ st12 =>
some (v3, st12))
set_option maxHeartbeats 1000000 in
set_option maxRecDepth 20000 in
theorem T4_readNumber_65 {g : fkG} {k : fkK} (hk : fk_ok wC g k RX4 cX4_readNumber 5 (some (.int)) 2 41) : ∀ (v1 : Int32) (v2 : Int32) (v3 : Int32) (st : fkS), fk_J wC g fk_eI k 65 [(0, fk_r g 34), (1, .int v1), (2, .int v2), (3, .int v3)] [] st (B4_readNumber_65 v1 v2 v3 st) := by
  intro v1 v2 v3 st
  unfold B4_readNumber_65
  refine j_iload_n (pc := 65) hk 3 rfl dX4_readNumber_65 ?_
  refine j_iload_n (pc := 66) hk 1 rfl dX4_readNumber_66 ?_
  refine j_icmp_le (tgt := 75) (pc := 67) hk (by decide) dX4_readNumber_67 (fun _ => ?_) (fun _ => ?_)
  · refine j_iload_n (pc := 75) hk 3 rfl dX4_readNumber_75 ?_
    exact j_iret (pc := 76) hk dX4_readNumber_76
  · refine j_aload_n (pc := 70) hk 0 rfl ⟨_, rfl⟩ dX4_readNumber_70 ?_
    refine j_iload_n (pc := 71) hk 2 rfl dX4_readNumber_71 ?_
    refine j_callVv (pc := 72) hk [.int v2] [] rfl (fun l o hq9 => C4_fail v2 st l o hq9) (rcv_4 (rfl)) yv_X4_fail ml_4_60 rfl (Nat.le_of_ble_eq_true rfl) (Nat.le_of_ble_eq_true rfl) (Nat.le_of_ble_eq_true rfl) dX4_readNumber_72 (fun _ st12 => ?_)
    refine j_iload_n (pc := 75) hk 3 rfl dX4_readNumber_75 ?_
    exact j_iret (pc := 76) hk dX4_readNumber_76
def F4_readNumber (p1 : Int32) (st : fkS) : Option (Int32 × fkS) :=
fk_let (gI st 81 34) <| fun x1 =>
fk_bind (F4_digit st) <| fun x2 st3 =>
if x2 = (-1 : Int32) then
(fk_let (gI st3 81 34) <| fun x4 =>
fk_bind (F4_fail x4 st3) <| fun _ st5 =>
some ((0 : Int32), st5))
else
(fk_let (gI st3 81 34) <| fun x6 =>
fk_let (sI st3 81 34 (x6 + (1 : Int32))) <| fun st7 =>
fk_bind (F4_digit st7) <| fun x8 st9 =>
if x8 = (-1 : Int32) then
(B4_readNumber_65 p1 x1 x2 st9)
else
(fk_let (gI st9 81 34) <| fun x10 =>
fk_let (sI st9 81 34 (x10 + (1 : Int32))) <| fun st11 =>
B4_readNumber_65 p1 x1 (((10 : Int32) * x2) + x8) st11))
set_option maxHeartbeats 1000000 in
set_option maxRecDepth 20000 in
theorem C4_readNumber (p1 : Int32) (st : fkS) {g : fkG} (l : Launch) (o : Int32 × fkS) (hF : F4_readNumber p1 st = some o) : fk_C wC yX4_readNumber cX4_readNumber 5 (some (.int)) 2 41 l g [fk_r g 34, .int p1] st (fk_eI o.1) o.2 := by
  refine fk_begin rfl (Nat.le_of_ble_eq_true rfl) (fun k hk => ?_) o hF
  have hk : fk_ok wC g k RX4 cX4_readNumber 5 (some (.int)) 2 41 := hk
  show fk_J wC g fk_eI k 0 [(0, fk_r g 34), (1, .int p1)] [] st (F4_readNumber p1 st)
  unfold F4_readNumber
  refine j_aload_n (pc := 0) hk 0 rfl ⟨_, rfl⟩ dX4_readNumber_0 ?_
  refine f_4_15 (pc := 1) hk (rfl) dX4_readNumber_1 (fun x1 => ?_)
  refine j_istore_n (lv' := ((2, .int x1) :: [(0, fk_r g 34), (1, .int p1)])) (pc := 4) hk rfl (by decide) rfl dX4_readNumber_4 ?_
  refine j_sub hk (lv' := [(0, fk_r g 34), (1, .int p1), (2, .int x1)]) [1, 2, 0] rfl ?_
  refine j_aload_n (pc := 5) hk 0 rfl ⟨_, rfl⟩ dX4_readNumber_5 ?_
  refine j_callVi (pc := 6) hk [] [] rfl (fun l o hq9 => C4_digit st l o hq9) (rcv_4 (rfl)) yv_X4_digit ml_4_112 rfl (Nat.le_of_ble_eq_true rfl) (Nat.le_of_ble_eq_true rfl) (Nat.le_of_ble_eq_true rfl) dX4_readNumber_6 (fun x2 st3 => ?_)
  refine j_istore_n (lv' := ((3, .int x2) :: [(0, fk_r g 34), (1, .int p1), (2, .int x1)])) (pc := 9) hk rfl (by decide) rfl dX4_readNumber_9 ?_
  refine j_sub hk (lv' := [(0, fk_r g 34), (1, .int p1), (2, .int x1), (3, .int x2)]) [1, 2, 3, 0] rfl ?_
  refine j_iload_n (pc := 10) hk 3 rfl dX4_readNumber_10 ?_
  refine j_iconst (pc := 11) hk dX4_readNumber_11 (v := -1) (by decide) ?_
  refine j_icmp_ne (tgt := 25) (pc := 12) hk (by decide) dX4_readNumber_12 (fun _ => ?_) (fun _ => ?_)
  · refine j_aload_n (pc := 15) hk 0 rfl ⟨_, rfl⟩ dX4_readNumber_15 ?_
    refine j_aload_n (pc := 16) hk 0 rfl ⟨_, rfl⟩ dX4_readNumber_16 ?_
    refine f_4_15 (pc := 17) hk (rfl) dX4_readNumber_17 (fun x4 => ?_)
    refine j_callVv (pc := 20) hk [.int x4] [] rfl (fun l o hq9 => C4_fail x4 st3 l o hq9) (rcv_4 (rfl)) yv_X4_fail ml_4_60 rfl (Nat.le_of_ble_eq_true rfl) (Nat.le_of_ble_eq_true rfl) (Nat.le_of_ble_eq_true rfl) dX4_readNumber_20 (fun _ st5 => ?_)
    refine j_iconst (pc := 23) hk dX4_readNumber_23 (v := 0) (by decide) ?_
    exact j_iret (pc := 24) hk dX4_readNumber_24
  · refine j_aload_n (pc := 25) hk 0 rfl ⟨_, rfl⟩ dX4_readNumber_25 ?_
    refine j_dup (pc := 26) hk rfl dX4_readNumber_26 ?_
    refine f_4_15 (pc := 27) hk (rfl) dX4_readNumber_27 (fun x6 => ?_)
    refine j_iconst (pc := 30) hk dX4_readNumber_30 (v := 1) (by decide) ?_
    refine j_iadd (pc := 31) hk dX4_readNumber_31 ?_
    refine p_4_15 (pc := 32) hk (rfl) dX4_readNumber_32 (fun st7 => ?_)
    refine j_aload_n (pc := 35) hk 0 rfl ⟨_, rfl⟩ dX4_readNumber_35 ?_
    refine j_callVi (pc := 36) hk [] [] rfl (fun l o hq9 => C4_digit st7 l o hq9) (rcv_4 (rfl)) yv_X4_digit ml_4_112 rfl (Nat.le_of_ble_eq_true rfl) (Nat.le_of_ble_eq_true rfl) (Nat.le_of_ble_eq_true rfl) dX4_readNumber_36 (fun x8 st9 => ?_)
    refine j_istore (lv' := ((4, .int x8) :: [(0, fk_r g 34), (1, .int p1), (2, .int x1), (3, .int x2)])) (pc := 39) hk (by decide) rfl dX4_readNumber_39 ?_
    refine j_sub hk (lv' := [(0, fk_r g 34), (1, .int p1), (2, .int x1), (3, .int x2), (4, .int x8)]) [1, 2, 3, 4, 0] rfl ?_
    refine j_iload (pc := 41) hk 4 rfl dX4_readNumber_41 ?_
    refine j_iconst (pc := 43) hk dX4_readNumber_43 (v := -1) (by decide) ?_
    refine j_icmp_eq (tgt := 65) (pc := 44) hk (by decide) dX4_readNumber_44 (fun _ => ?_) (fun _ => ?_)
    · exact j_sub hk [0, 1, 2, 3] rfl (T4_readNumber_65 hk p1 x1 x2 st9)
    · refine j_aload_n (pc := 47) hk 0 rfl ⟨_, rfl⟩ dX4_readNumber_47 ?_
      refine j_dup (pc := 48) hk rfl dX4_readNumber_48 ?_
      refine f_4_15 (pc := 49) hk (rfl) dX4_readNumber_49 (fun x10 => ?_)
      refine j_iconst (pc := 52) hk dX4_readNumber_52 (v := 1) (by decide) ?_
      refine j_iadd (pc := 53) hk dX4_readNumber_53 ?_
      refine p_4_15 (pc := 54) hk (rfl) dX4_readNumber_54 (fun st11 => ?_)
      refine j_bipush (pc := 57) hk dX4_readNumber_57 (v := 10) (by decide) ?_
      refine j_iload_n (pc := 59) hk 3 rfl dX4_readNumber_59 ?_
      refine j_imul (pc := 60) hk dX4_readNumber_60 ?_
      refine j_iload (pc := 61) hk 4 rfl dX4_readNumber_61 ?_
      refine j_iadd (pc := 63) hk dX4_readNumber_63 ?_
      refine j_istore_n (lv' := ((3, .int (((10 : Int32) * x2) + x8)) :: [(0, fk_r g 34), (1, .int p1), (2, .int x1), (4, .int x8)])) (pc := 64) hk rfl (by decide) rfl dX4_readNumber_64 ?_
      refine j_sub hk (lv' := [(0, fk_r g 34), (1, .int p1), (2, .int x1), (3, .int (((10 : Int32) * x2) + x8)), (4, .int x8)]) [1, 2, 3, 0, 4] rfl ?_
      exact j_sub hk [0, 1, 2, 3] rfl (T4_readNumber_65 hk p1 x1 (((10 : Int32) * x2) + x8) st11)
theorem dX4_tell_0 : decode cX4_tell 0 = .ok (.iload_n 2, 1) := by decide +kernel
theorem dX4_tell_1 : decode cX4_tell 1 = .ok (.lookupswitch 147 #[(98, 51), (103, 102), (104, 76), (105, 127), (115, 89)], 51) := by decide +kernel
theorem dX4_tell_52 : decode cX4_tell 52 = .ok (.aload_n 1, 1) := by decide +kernel
theorem dX4_tell_53 : decode cX4_tell 53 = .ok (.aload_n 0, 1) := by decide +kernel
theorem dX4_tell_54 : decode cX4_tell 54 = .ok (.getfield 22, 3) := by decide +kernel
theorem dX4_tell_57 : decode cX4_tell 57 = .ok (.iconst 0, 1) := by decide +kernel
theorem dX4_tell_58 : decode cX4_tell 58 = .ok (.iaload, 1) := by decide +kernel
theorem dX4_tell_59 : decode cX4_tell 59 = .ok (.aload_n 0, 1) := by decide +kernel
theorem dX4_tell_60 : decode cX4_tell 60 = .ok (.getfield 22, 3) := by decide +kernel
theorem dX4_tell_63 : decode cX4_tell 63 = .ok (.iconst 1, 1) := by decide +kernel
theorem dX4_tell_64 : decode cX4_tell 64 = .ok (.iaload, 1) := by decide +kernel
theorem dX4_tell_65 : decode cX4_tell 65 = .ok (.aload_n 0, 1) := by decide +kernel
theorem dX4_tell_66 : decode cX4_tell 66 = .ok (.getfield 22, 3) := by decide +kernel
theorem dX4_tell_69 : decode cX4_tell 69 = .ok (.iconst 2, 1) := by decide +kernel
theorem dX4_tell_70 : decode cX4_tell 70 = .ok (.iaload, 1) := by decide +kernel
theorem dX4_tell_71 : decode cX4_tell 71 = .ok (.invokevirtual 84, 3) := by decide +kernel
theorem dX4_tell_74 : decode cX4_tell 74 = .ok (.goto 93, 3) := by decide +kernel
theorem dX4_tell_77 : decode cX4_tell 77 = .ok (.aload_n 1, 1) := by decide +kernel
theorem dX4_tell_78 : decode cX4_tell 78 = .ok (.aload_n 0, 1) := by decide +kernel
theorem dX4_tell_79 : decode cX4_tell 79 = .ok (.getfield 22, 3) := by decide +kernel
theorem dX4_tell_82 : decode cX4_tell 82 = .ok (.iconst 0, 1) := by decide +kernel
theorem dX4_tell_83 : decode cX4_tell 83 = .ok (.iaload, 1) := by decide +kernel
theorem dX4_tell_84 : decode cX4_tell 84 = .ok (.putfield 88, 3) := by decide +kernel
theorem dX4_tell_87 : decode cX4_tell 87 = .ok (.goto 80, 3) := by decide +kernel
theorem dX4_tell_90 : decode cX4_tell 90 = .ok (.aload_n 1, 1) := by decide +kernel
theorem dX4_tell_91 : decode cX4_tell 91 = .ok (.aload_n 0, 1) := by decide +kernel
theorem dX4_tell_92 : decode cX4_tell 92 = .ok (.getfield 22, 3) := by decide +kernel
theorem dX4_tell_95 : decode cX4_tell 95 = .ok (.iconst 0, 1) := by decide +kernel
theorem dX4_tell_96 : decode cX4_tell 96 = .ok (.iaload, 1) := by decide +kernel
theorem dX4_tell_97 : decode cX4_tell 97 = .ok (.putfield 91, 3) := by decide +kernel
theorem dX4_tell_100 : decode cX4_tell 100 = .ok (.goto 67, 3) := by decide +kernel
theorem dX4_tell_103 : decode cX4_tell 103 = .ok (.aload_n 1, 1) := by decide +kernel
theorem dX4_tell_104 : decode cX4_tell 104 = .ok (.aload_n 0, 1) := by decide +kernel
theorem dX4_tell_105 : decode cX4_tell 105 = .ok (.getfield 22, 3) := by decide +kernel
theorem dX4_tell_108 : decode cX4_tell 108 = .ok (.iconst 0, 1) := by decide +kernel
theorem dX4_tell_109 : decode cX4_tell 109 = .ok (.iaload, 1) := by decide +kernel
theorem dX4_tell_110 : decode cX4_tell 110 = .ok (.aload_n 0, 1) := by decide +kernel
theorem dX4_tell_111 : decode cX4_tell 111 = .ok (.getfield 22, 3) := by decide +kernel
theorem dX4_tell_114 : decode cX4_tell 114 = .ok (.iconst 1, 1) := by decide +kernel
theorem dX4_tell_115 : decode cX4_tell 115 = .ok (.iaload, 1) := by decide +kernel
theorem dX4_tell_116 : decode cX4_tell 116 = .ok (.aload_n 0, 1) := by decide +kernel
theorem dX4_tell_117 : decode cX4_tell 117 = .ok (.getfield 22, 3) := by decide +kernel
theorem dX4_tell_120 : decode cX4_tell 120 = .ok (.iconst 2, 1) := by decide +kernel
theorem dX4_tell_121 : decode cX4_tell 121 = .ok (.iaload, 1) := by decide +kernel
theorem dX4_tell_122 : decode cX4_tell 122 = .ok (.invokevirtual 94, 3) := by decide +kernel
theorem dX4_tell_125 : decode cX4_tell 125 = .ok (.goto 42, 3) := by decide +kernel
theorem dX4_tell_128 : decode cX4_tell 128 = .ok (.aload_n 1, 1) := by decide +kernel
theorem dX4_tell_129 : decode cX4_tell 129 = .ok (.dup, 1) := by decide +kernel
theorem dX4_tell_130 : decode cX4_tell 130 = .ok (.getfield 97, 3) := by decide +kernel
theorem dX4_tell_133 : decode cX4_tell 133 = .ok (.iconst 1, 1) := by decide +kernel
theorem dX4_tell_134 : decode cX4_tell 134 = .ok (.aload_n 0, 1) := by decide +kernel
theorem dX4_tell_135 : decode cX4_tell 135 = .ok (.getfield 22, 3) := by decide +kernel
theorem dX4_tell_138 : decode cX4_tell 138 = .ok (.iconst 0, 1) := by decide +kernel
theorem dX4_tell_139 : decode cX4_tell 139 = .ok (.iaload, 1) := by decide +kernel
theorem dX4_tell_140 : decode cX4_tell 140 = .ok (.ishl, 1) := by decide +kernel
theorem dX4_tell_141 : decode cX4_tell 141 = .ok (.ior, 1) := by decide +kernel
theorem dX4_tell_142 : decode cX4_tell 142 = .ok (.putfield 97, 3) := by decide +kernel
theorem dX4_tell_145 : decode cX4_tell 145 = .ok (.goto 22, 3) := by decide +kernel
theorem dX4_tell_148 : decode cX4_tell 148 = .ok (.aload_n 1, 1) := by decide +kernel
theorem dX4_tell_149 : decode cX4_tell 149 = .ok (.dup, 1) := by decide +kernel
theorem dX4_tell_150 : decode cX4_tell 150 = .ok (.getfield 97, 3) := by decide +kernel
theorem dX4_tell_153 : decode cX4_tell 153 = .ok (.iconst 1, 1) := by decide +kernel
theorem dX4_tell_154 : decode cX4_tell 154 = .ok (.aload_n 0, 1) := by decide +kernel
theorem dX4_tell_155 : decode cX4_tell 155 = .ok (.getfield 22, 3) := by decide +kernel
theorem dX4_tell_158 : decode cX4_tell 158 = .ok (.iconst 0, 1) := by decide +kernel
theorem dX4_tell_159 : decode cX4_tell 159 = .ok (.iaload, 1) := by decide +kernel
theorem dX4_tell_160 : decode cX4_tell 160 = .ok (.ishl, 1) := by decide +kernel
theorem dX4_tell_161 : decode cX4_tell 161 = .ok (.iconst (-1), 1) := by decide +kernel
theorem dX4_tell_162 : decode cX4_tell 162 = .ok (.ixor, 1) := by decide +kernel
theorem dX4_tell_163 : decode cX4_tell 163 = .ok (.iand, 1) := by decide +kernel
theorem dX4_tell_164 : decode cX4_tell 164 = .ok (.putfield 97, 3) := by decide +kernel
theorem dX4_tell_167 : decode cX4_tell 167 = .ok (.return_, 1) := by decide +kernel
def F4_tell (o1 : Nat) (p2 : Int32) (st : fkS) : Option (Unit × fkS) :=
if p2 = (98 : Int32) then
(fk_chk (fk_in (0 : Int32) 3) <| fk_let (gA st 35 (0 : Int32).toNatClampNeg) <| fun x2 =>
fk_chk (fk_in (1 : Int32) 3) <| fk_let (gA st 35 (1 : Int32).toNatClampNeg) <| fun x3 =>
fk_chk (fk_in (2 : Int32) 3) <| fk_let (gA st 35 (2 : Int32).toNatClampNeg) <| fun x4 =>
fk_bind (F0_add o1 x2 x3 x4 st) <| fun _ st5 =>
some ((), st5))
else
(if p2 = (103 : Int32) then
(fk_chk (fk_in (0 : Int32) 3) <| fk_let (gA st 35 (0 : Int32).toNatClampNeg) <| fun x7 =>
fk_chk (fk_in (1 : Int32) 3) <| fk_let (gA st 35 (1 : Int32).toNatClampNeg) <| fun x8 =>
fk_chk (fk_in (2 : Int32) 3) <| fk_let (gA st 35 (2 : Int32).toNatClampNeg) <| fun x9 =>
fk_bind (F0_setComing o1 x7 x8 x9 st) <| fun _ st10 =>
some ((), st10))
else
(if p2 = (104 : Int32) then
(fk_chk (fk_in (0 : Int32) 3) <| fk_let (gA st 35 (0 : Int32).toNatClampNeg) <| fun x12 =>
fk_let (sI st 5 o1 x12) <| fun st13 =>
some ((), st13))
else
(if p2 = (105 : Int32) then
(fk_let (gI st 7 o1) <| fun x15 =>
fk_chk (fk_in (0 : Int32) 3) <| fk_let (gA st 35 (0 : Int32).toNatClampNeg) <| fun x16 =>
fk_let (sI st 7 o1 (x15 ||| ((1 : Int32) <<< (x16 &&& 31)))) <| fun st17 =>
some ((), st17))
else
(if p2 = (115 : Int32) then
(fk_chk (fk_in (0 : Int32) 3) <| fk_let (gA st 35 (0 : Int32).toNatClampNeg) <| fun x19 =>
fk_let (sI st 6 o1 x19) <| fun st20 =>
some ((), st20))
else
(fk_let (gI st 7 o1) <| fun x21 =>
fk_chk (fk_in (0 : Int32) 3) <| fk_let (gA st 35 (0 : Int32).toNatClampNeg) <| fun x22 =>
fk_let (sI st 7 o1 (x21 &&& (((1 : Int32) <<< (x22 &&& 31)) ^^^ (-1 : Int32)))) <| fun st23 =>
some ((), st23))))))
set_option maxHeartbeats 1000000 in
set_option maxRecDepth 20000 in
theorem C4_tell (o1 : Nat) (ho1 : kdC o1 = 0) (p2 : Int32) (st : fkS) {g : fkG} (l : Launch) (o : Unit × fkS) (hF : F4_tell o1 p2 st = some o) : fk_C wC yX4_tell cX4_tell 3 none 2 45 l g [fk_r g 34, fk_r g o1, .int p2] st (fk_eU o.1) o.2 := by
  refine fk_begin rfl (Nat.le_of_ble_eq_true rfl) (fun k hk => ?_) o hF
  have hk : fk_ok wC g k RX4 cX4_tell 3 none 2 45 := hk
  show fk_J wC g fk_eU k 0 [(0, fk_r g 34), (1, fk_r g o1), (2, .int p2)] [] st (F4_tell o1 p2 st)
  unfold F4_tell
  refine j_iload_n (pc := 0) hk 2 rfl dX4_tell_0 ?_
  refine j_case (pc := 1) hk (fun n1 => ?_) (fun n1 => ?_)
  · refine j_lsw (off := 51) (tgt := 52) (pc := 1) hk (by decide) (by rw [n1]; decide) (by decide) dX4_tell_1 ?_
    refine j_aload_n (pc := 52) hk 1 rfl ⟨_, rfl⟩ dX4_tell_52 ?_
    refine j_aload_n (pc := 53) hk 0 rfl ⟨_, rfl⟩ dX4_tell_53 ?_
    refine f_4_22 (pc := 54) hk (rfl) dX4_tell_54 ?_
    refine j_iconst (pc := 57) hk dX4_tell_57 (v := 0) (by decide) ?_
    refine a_iload (pc := 58) hk (isI_4_3 (rfl)) dX4_tell_58 (fun x2 => ?_)
    refine j_aload_n (pc := 59) hk 0 rfl ⟨_, rfl⟩ dX4_tell_59 ?_
    refine f_4_22 (pc := 60) hk (rfl) dX4_tell_60 ?_
    refine j_iconst (pc := 63) hk dX4_tell_63 (v := 1) (by decide) ?_
    refine a_iload (pc := 64) hk (isI_4_3 (rfl)) dX4_tell_64 (fun x3 => ?_)
    refine j_aload_n (pc := 65) hk 0 rfl ⟨_, rfl⟩ dX4_tell_65 ?_
    refine f_4_22 (pc := 66) hk (rfl) dX4_tell_66 ?_
    refine j_iconst (pc := 69) hk dX4_tell_69 (v := 2) (by decide) ?_
    refine a_iload (pc := 70) hk (isI_4_3 (rfl)) dX4_tell_70 (fun x4 => ?_)
    refine j_callVNv (pc := 71) hk [.int x2, .int x3, .int x4] [] rfl (fun l o hq9 => C0_add o1 (ho1) x2 x3 x4 st l o hq9) (rcv_0 (ho1)) yv_X0_add ml_4_84 rfl (Nat.le_of_ble_eq_true rfl) (Nat.le_of_ble_eq_true rfl) (Nat.le_of_ble_eq_true rfl) dX4_tell_71 (fun _ st5 => ?_)
    refine j_goto (tgt := 167) (pc := 74) hk (by decide) dX4_tell_74 ?_
    exact j_vret (pc := 167) hk dX4_tell_167
  · refine j_case (pc := 1) hk (fun n6 => ?_) (fun n6 => ?_)
    · refine j_lsw (off := 102) (tgt := 103) (pc := 1) hk (by decide) (by rw [n6]; decide) (by decide) dX4_tell_1 ?_
      refine j_aload_n (pc := 103) hk 1 rfl ⟨_, rfl⟩ dX4_tell_103 ?_
      refine j_aload_n (pc := 104) hk 0 rfl ⟨_, rfl⟩ dX4_tell_104 ?_
      refine f_4_22 (pc := 105) hk (rfl) dX4_tell_105 ?_
      refine j_iconst (pc := 108) hk dX4_tell_108 (v := 0) (by decide) ?_
      refine a_iload (pc := 109) hk (isI_4_3 (rfl)) dX4_tell_109 (fun x7 => ?_)
      refine j_aload_n (pc := 110) hk 0 rfl ⟨_, rfl⟩ dX4_tell_110 ?_
      refine f_4_22 (pc := 111) hk (rfl) dX4_tell_111 ?_
      refine j_iconst (pc := 114) hk dX4_tell_114 (v := 1) (by decide) ?_
      refine a_iload (pc := 115) hk (isI_4_3 (rfl)) dX4_tell_115 (fun x8 => ?_)
      refine j_aload_n (pc := 116) hk 0 rfl ⟨_, rfl⟩ dX4_tell_116 ?_
      refine f_4_22 (pc := 117) hk (rfl) dX4_tell_117 ?_
      refine j_iconst (pc := 120) hk dX4_tell_120 (v := 2) (by decide) ?_
      refine a_iload (pc := 121) hk (isI_4_3 (rfl)) dX4_tell_121 (fun x9 => ?_)
      refine j_callVNv (pc := 122) hk [.int x7, .int x8, .int x9] [] rfl (fun l o hq9 => C0_setComing o1 (ho1) x7 x8 x9 st l o hq9) (rcv_0 (ho1)) yv_X0_setComing ml_4_94 rfl (Nat.le_of_ble_eq_true rfl) (Nat.le_of_ble_eq_true rfl) (Nat.le_of_ble_eq_true rfl) dX4_tell_122 (fun _ st10 => ?_)
      refine j_goto (tgt := 167) (pc := 125) hk (by decide) dX4_tell_125 ?_
      exact j_vret (pc := 167) hk dX4_tell_167
    · refine j_case (pc := 1) hk (fun n11 => ?_) (fun n11 => ?_)
      · refine j_lsw (off := 76) (tgt := 77) (pc := 1) hk (by decide) (by rw [n11]; decide) (by decide) dX4_tell_1 ?_
        refine j_aload_n (pc := 77) hk 1 rfl ⟨_, rfl⟩ dX4_tell_77 ?_
        refine j_aload_n (pc := 78) hk 0 rfl ⟨_, rfl⟩ dX4_tell_78 ?_
        refine f_4_22 (pc := 79) hk (rfl) dX4_tell_79 ?_
        refine j_iconst (pc := 82) hk dX4_tell_82 (v := 0) (by decide) ?_
        refine a_iload (pc := 83) hk (isI_4_3 (rfl)) dX4_tell_83 (fun x12 => ?_)
        refine p_4_88 (pc := 84) hk (ho1) dX4_tell_84 (fun st13 => ?_)
        refine j_goto (tgt := 167) (pc := 87) hk (by decide) dX4_tell_87 ?_
        exact j_vret (pc := 167) hk dX4_tell_167
      · refine j_case (pc := 1) hk (fun n14 => ?_) (fun n14 => ?_)
        · refine j_lsw (off := 127) (tgt := 128) (pc := 1) hk (by decide) (by rw [n14]; decide) (by decide) dX4_tell_1 ?_
          refine j_aload_n (pc := 128) hk 1 rfl ⟨_, rfl⟩ dX4_tell_128 ?_
          refine j_dup (pc := 129) hk rfl dX4_tell_129 ?_
          refine f_4_97 (pc := 130) hk (ho1) dX4_tell_130 (fun x15 => ?_)
          refine j_iconst (pc := 133) hk dX4_tell_133 (v := 1) (by decide) ?_
          refine j_aload_n (pc := 134) hk 0 rfl ⟨_, rfl⟩ dX4_tell_134 ?_
          refine f_4_22 (pc := 135) hk (rfl) dX4_tell_135 ?_
          refine j_iconst (pc := 138) hk dX4_tell_138 (v := 0) (by decide) ?_
          refine a_iload (pc := 139) hk (isI_4_3 (rfl)) dX4_tell_139 (fun x16 => ?_)
          refine j_ishl (pc := 140) hk dX4_tell_140 ?_
          refine j_ior (pc := 141) hk dX4_tell_141 ?_
          refine p_4_97 (pc := 142) hk (ho1) dX4_tell_142 (fun st17 => ?_)
          refine j_goto (tgt := 167) (pc := 145) hk (by decide) dX4_tell_145 ?_
          exact j_vret (pc := 167) hk dX4_tell_167
        · refine j_case (pc := 1) hk (fun n18 => ?_) (fun n18 => ?_)
          · refine j_lsw (off := 89) (tgt := 90) (pc := 1) hk (by decide) (by rw [n18]; decide) (by decide) dX4_tell_1 ?_
            refine j_aload_n (pc := 90) hk 1 rfl ⟨_, rfl⟩ dX4_tell_90 ?_
            refine j_aload_n (pc := 91) hk 0 rfl ⟨_, rfl⟩ dX4_tell_91 ?_
            refine f_4_22 (pc := 92) hk (rfl) dX4_tell_92 ?_
            refine j_iconst (pc := 95) hk dX4_tell_95 (v := 0) (by decide) ?_
            refine a_iload (pc := 96) hk (isI_4_3 (rfl)) dX4_tell_96 (fun x19 => ?_)
            refine p_4_91 (pc := 97) hk (ho1) dX4_tell_97 (fun st20 => ?_)
            refine j_goto (tgt := 167) (pc := 100) hk (by decide) dX4_tell_100 ?_
            exact j_vret (pc := 167) hk dX4_tell_167
          · have mn1 := lv_neT (a := 98) n1 (by decide)
            have mn6 := lv_neT (a := 103) n6 (by decide)
            have mn11 := lv_neT (a := 104) n11 (by decide)
            have mn14 := lv_neT (a := 105) n14 (by decide)
            have mn18 := lv_neT (a := 115) n18 (by decide)
            refine j_lsw (off := 147) (tgt := 148) (pc := 1) hk (by decide) (fk_lsw (by intro q hq; simp only [List.mem_cons, List.not_mem_nil, or_false] at hq; rcases hq with rfl | rfl | rfl | rfl | rfl <;> simpa using by assumption)) (by decide) dX4_tell_1 ?_
            refine j_aload_n (pc := 148) hk 1 rfl ⟨_, rfl⟩ dX4_tell_148 ?_
            refine j_dup (pc := 149) hk rfl dX4_tell_149 ?_
            refine f_4_97 (pc := 150) hk (ho1) dX4_tell_150 (fun x21 => ?_)
            refine j_iconst (pc := 153) hk dX4_tell_153 (v := 1) (by decide) ?_
            refine j_aload_n (pc := 154) hk 0 rfl ⟨_, rfl⟩ dX4_tell_154 ?_
            refine f_4_22 (pc := 155) hk (rfl) dX4_tell_155 ?_
            refine j_iconst (pc := 158) hk dX4_tell_158 (v := 0) (by decide) ?_
            refine a_iload (pc := 159) hk (isI_4_3 (rfl)) dX4_tell_159 (fun x22 => ?_)
            refine j_ishl (pc := 160) hk dX4_tell_160 ?_
            refine j_iconst (pc := 161) hk dX4_tell_161 (v := -1) (by decide) ?_
            refine j_ixor (pc := 162) hk dX4_tell_162 ?_
            refine j_iand (pc := 163) hk dX4_tell_163 ?_
            refine p_4_97 (pc := 164) hk (ho1) dX4_tell_164 (fun st23 => ?_)
            exact j_vret (pc := 167) hk dX4_tell_167
theorem dX4_readItem_0 : decode cX4_readItem 0 = .ok (.aload_n 0, 1) := by decide +kernel
theorem dX4_readItem_1 : decode cX4_readItem 1 = .ok (.getfield 15, 3) := by decide +kernel
theorem dX4_readItem_4 : decode cX4_readItem 4 = .ok (.istore_n 2, 1) := by decide +kernel
theorem dX4_readItem_5 : decode cX4_readItem 5 = .ok (.aload_n 0, 1) := by decide +kernel
theorem dX4_readItem_6 : decode cX4_readItem 6 = .ok (.invokevirtual 39, 3) := by decide +kernel
theorem dX4_readItem_9 : decode cX4_readItem 9 = .ok (.istore_n 3, 1) := by decide +kernel
theorem dX4_readItem_10 : decode cX4_readItem 10 = .ok (.iload_n 3, 1) := by decide +kernel
theorem dX4_readItem_11 : decode cX4_readItem 11 = .ok (.invokestatic 43, 3) := by decide +kernel
theorem dX4_readItem_14 : decode cX4_readItem 14 = .ok (.astore 4, 2) := by decide +kernel
theorem dX4_readItem_16 : decode cX4_readItem 16 = .ok (.iconst 0, 1) := by decide +kernel
theorem dX4_readItem_17 : decode cX4_readItem 17 = .ok (.istore 5, 2) := by decide +kernel
theorem dX4_readItem_19 : decode cX4_readItem 19 = .ok (.iload 5, 2) := by decide +kernel
theorem dX4_readItem_21 : decode cX4_readItem 21 = .ok (.aload 4, 2) := by decide +kernel
theorem dX4_readItem_23 : decode cX4_readItem 23 = .ok (.invokevirtual 47, 3) := by decide +kernel
theorem dX4_readItem_26 : decode cX4_readItem 26 = .ok (.if_icmp .ge 20, 3) := by decide +kernel
theorem dX4_readItem_29 : decode cX4_readItem 29 = .ok (.aload_n 0, 1) := by decide +kernel
theorem dX4_readItem_30 : decode cX4_readItem 30 = .ok (.aload 4, 2) := by decide +kernel
theorem dX4_readItem_32 : decode cX4_readItem 32 = .ok (.iload 5, 2) := by decide +kernel
theorem dX4_readItem_34 : decode cX4_readItem 34 = .ok (.invokevirtual 52, 3) := by decide +kernel
theorem dX4_readItem_37 : decode cX4_readItem 37 = .ok (.invokevirtual 26, 3) := by decide +kernel
theorem dX4_readItem_40 : decode cX4_readItem 40 = .ok (.iinc 5 1, 3) := by decide +kernel
theorem dX4_readItem_43 : decode cX4_readItem 43 = .ok (.goto (-24), 3) := by decide +kernel
theorem dX4_readItem_46 : decode cX4_readItem 46 = .ok (.aload 4, 2) := by decide +kernel
theorem dX4_readItem_48 : decode cX4_readItem 48 = .ok (.invokevirtual 56, 3) := by decide +kernel
theorem dX4_readItem_51 : decode cX4_readItem 51 = .ok (.ifCond .eq 11, 3) := by decide +kernel
theorem dX4_readItem_54 : decode cX4_readItem 54 = .ok (.aload_n 0, 1) := by decide +kernel
theorem dX4_readItem_55 : decode cX4_readItem 55 = .ok (.aload_n 0, 1) := by decide +kernel
theorem dX4_readItem_56 : decode cX4_readItem 56 = .ok (.getfield 15, 3) := by decide +kernel
theorem dX4_readItem_59 : decode cX4_readItem 59 = .ok (.invokevirtual 60, 3) := by decide +kernel
theorem dX4_readItem_62 : decode cX4_readItem 62 = .ok (.iload_n 3, 1) := by decide +kernel
theorem dX4_readItem_63 : decode cX4_readItem 63 = .ok (.bipush 98, 2) := by decide +kernel
theorem dX4_readItem_65 : decode cX4_readItem 65 = .ok (.if_icmp .ne 17, 3) := by decide +kernel
theorem dX4_readItem_68 : decode cX4_readItem 68 = .ok (.aload_n 1, 1) := by decide +kernel
theorem dX4_readItem_69 : decode cX4_readItem 69 = .ok (.getfield 64, 3) := by decide +kernel
theorem dX4_readItem_72 : decode cX4_readItem 72 = .ok (.bipush 7, 2) := by decide +kernel
theorem dX4_readItem_74 : decode cX4_readItem 74 = .ok (.if_icmp .lt 8, 3) := by decide +kernel
theorem dX4_readItem_77 : decode cX4_readItem 77 = .ok (.aload_n 0, 1) := by decide +kernel
theorem dX4_readItem_78 : decode cX4_readItem 78 = .ok (.iload_n 2, 1) := by decide +kernel
theorem dX4_readItem_79 : decode cX4_readItem 79 = .ok (.invokevirtual 60, 3) := by decide +kernel
theorem dX4_readItem_82 : decode cX4_readItem 82 = .ok (.iconst 0, 1) := by decide +kernel
theorem dX4_readItem_83 : decode cX4_readItem 83 = .ok (.istore 5, 2) := by decide +kernel
theorem dX4_readItem_85 : decode cX4_readItem 85 = .ok (.iload 5, 2) := by decide +kernel
theorem dX4_readItem_87 : decode cX4_readItem 87 = .ok (.iload_n 3, 1) := by decide +kernel
theorem dX4_readItem_88 : decode cX4_readItem 88 = .ok (.invokestatic 69, 3) := by decide +kernel
theorem dX4_readItem_91 : decode cX4_readItem 91 = .ok (.if_icmp .ge 32, 3) := by decide +kernel
theorem dX4_readItem_94 : decode cX4_readItem 94 = .ok (.aload_n 0, 1) := by decide +kernel
theorem dX4_readItem_95 : decode cX4_readItem 95 = .ok (.bipush 32, 2) := by decide +kernel
theorem dX4_readItem_97 : decode cX4_readItem 97 = .ok (.invokevirtual 26, 3) := by decide +kernel
theorem dX4_readItem_100 : decode cX4_readItem 100 = .ok (.aload_n 0, 1) := by decide +kernel
theorem dX4_readItem_101 : decode cX4_readItem 101 = .ok (.getfield 22, 3) := by decide +kernel
theorem dX4_readItem_104 : decode cX4_readItem 104 = .ok (.iload 5, 2) := by decide +kernel
theorem dX4_readItem_106 : decode cX4_readItem 106 = .ok (.aload_n 0, 1) := by decide +kernel
theorem dX4_readItem_107 : decode cX4_readItem 107 = .ok (.iload_n 3, 1) := by decide +kernel
theorem dX4_readItem_108 : decode cX4_readItem 108 = .ok (.iload 5, 2) := by decide +kernel
theorem dX4_readItem_110 : decode cX4_readItem 110 = .ok (.invokestatic 73, 3) := by decide +kernel
theorem dX4_readItem_113 : decode cX4_readItem 113 = .ok (.invokevirtual 77, 3) := by decide +kernel
theorem dX4_readItem_116 : decode cX4_readItem 116 = .ok (.iastore, 1) := by decide +kernel
theorem dX4_readItem_117 : decode cX4_readItem 117 = .ok (.iinc 5 1, 3) := by decide +kernel
theorem dX4_readItem_120 : decode cX4_readItem 120 = .ok (.goto (-35), 3) := by decide +kernel
theorem dX4_readItem_123 : decode cX4_readItem 123 = .ok (.aload_n 0, 1) := by decide +kernel
theorem dX4_readItem_124 : decode cX4_readItem 124 = .ok (.getfield 9, 3) := by decide +kernel
theorem dX4_readItem_127 : decode cX4_readItem 127 = .ok (.iconst (-1), 1) := by decide +kernel
theorem dX4_readItem_128 : decode cX4_readItem 128 = .ok (.if_icmp .ne 9, 3) := by decide +kernel
theorem dX4_readItem_131 : decode cX4_readItem 131 = .ok (.aload_n 0, 1) := by decide +kernel
theorem dX4_readItem_132 : decode cX4_readItem 132 = .ok (.aload_n 1, 1) := by decide +kernel
theorem dX4_readItem_133 : decode cX4_readItem 133 = .ok (.iload_n 3, 1) := by decide +kernel
theorem dX4_readItem_134 : decode cX4_readItem 134 = .ok (.invokevirtual 80, 3) := by decide +kernel
theorem dX4_readItem_137 : decode cX4_readItem 137 = .ok (.return_, 1) := by decide +kernel
def B4_readItem_85 (o1 : Nat) (k85 : Int32 → Int32 → fkS → Option (Unit × fkS)) (v3 : Int32) (v5 : Int32) (st : fkS) : Option (Unit × fkS) :=
fk_bind (F4_numbersBehind v3 st) <| fun x18 st19 =>
if x18 ≤ v5 then
(fk_let (gI st19 80 34) <| fun x20 =>
if x20 = (-1 : Int32) then
(fk_bind (F4_tell o1 v3 st19) <| fun _ st21 =>
some ((), st21))
else
(some ((), st19)))
else
(fk_bind (F4_expect (32 : Int32) st19) <| fun _ st22 =>
fk_bind (F4_most v3 v5 st22) <| fun x23 st24 =>
fk_bind (F4_readNumber x23 st24) <| fun x25 st26 =>
fk_chk (fk_in v5 3) <| fk_let (sA st26 35 v5.toNatClampNeg x25) <| fun st27 =>
k85 v3 (v5 + (1 : Int32)) st27)
set_option maxHeartbeats 1000000 in
set_option maxRecDepth 20000 in
theorem T4_readItem_85 {g : fkG} {k : fkK} (o1 : Nat) (ho1 : kdC o1 = 0) (hk : fk_ok wC g k RX4 cX4_readItem 6 none 7 324) (k85 : Int32 → Int32 → fkS → Option (Unit × fkS)) (H85 : ∀ (v3 : Int32) (v5 : Int32) (st : fkS), fk_J wC g fk_eU k 85 [(0, fk_r g 34), (1, fk_r g o1), (3, .int v3), (5, .int v5)] [] st (k85 v3 v5 st)) : ∀ (v3 : Int32) (v5 : Int32) (st : fkS), fk_J wC g fk_eU k 85 [(0, fk_r g 34), (1, fk_r g o1), (3, .int v3), (5, .int v5)] [] st (B4_readItem_85 o1 k85 v3 v5 st) := by
  intro v3 v5 st
  unfold B4_readItem_85
  refine j_iload (pc := 85) hk 3 rfl dX4_readItem_85 ?_
  refine j_iload_n (pc := 87) hk 2 rfl dX4_readItem_87 ?_
  refine j_callSi (pc := 88) hk [.int v3] [.int v5] rfl (fun l o hq9 => C4_numbersBehind v3 st l o hq9) yv_X4_numbersBehind ml_4_69 rfl (Nat.le_of_ble_eq_true rfl) (Nat.le_of_ble_eq_true rfl) (Nat.le_of_ble_eq_true rfl) dX4_readItem_88 (fun x18 st19 => ?_)
  refine j_icmp_ge (tgt := 123) (pc := 91) hk (by decide) dX4_readItem_91 (fun _ => ?_) (fun _ => ?_)
  · refine j_aload_n (pc := 123) hk 0 rfl ⟨_, rfl⟩ dX4_readItem_123 ?_
    refine f_4_9 (pc := 124) hk (rfl) dX4_readItem_124 (fun x20 => ?_)
    refine j_iconst (pc := 127) hk dX4_readItem_127 (v := -1) (by decide) ?_
    refine j_icmp_ne (tgt := 137) (pc := 128) hk (by decide) dX4_readItem_128 (fun _ => ?_) (fun _ => ?_)
    · refine j_aload_n (pc := 131) hk 0 rfl ⟨_, rfl⟩ dX4_readItem_131 ?_
      refine j_aload_n (pc := 132) hk 1 rfl ⟨_, rfl⟩ dX4_readItem_132 ?_
      refine j_iload_n (pc := 133) hk 2 rfl dX4_readItem_133 ?_
      refine j_callVv (pc := 134) hk [fk_r g o1, .int v3] [] rfl (fun l o hq9 => C4_tell o1 (ho1) v3 st19 l o hq9) (rcv_4 (rfl)) yv_X4_tell ml_4_80 rfl (Nat.le_of_ble_eq_true rfl) (Nat.le_of_ble_eq_true rfl) (Nat.le_of_ble_eq_true rfl) dX4_readItem_134 (fun _ st21 => ?_)
      exact j_vret (pc := 137) hk dX4_readItem_137
    · exact j_vret (pc := 137) hk dX4_readItem_137
  · refine j_aload_n (pc := 94) hk 0 rfl ⟨_, rfl⟩ dX4_readItem_94 ?_
    refine j_bipush (pc := 95) hk dX4_readItem_95 (v := 32) (by decide) ?_
    refine j_callVv (pc := 97) hk [.int (32 : Int32)] [] rfl (fun l o hq9 => C4_expect (32 : Int32) st19 l o hq9) (rcv_4 (rfl)) yv_X4_expect ml_4_26 rfl (Nat.le_of_ble_eq_true rfl) (Nat.le_of_ble_eq_true rfl) (Nat.le_of_ble_eq_true rfl) dX4_readItem_97 (fun _ st22 => ?_)
    refine j_aload_n (pc := 100) hk 0 rfl ⟨_, rfl⟩ dX4_readItem_100 ?_
    refine f_4_22 (pc := 101) hk (rfl) dX4_readItem_101 ?_
    refine j_iload (pc := 104) hk 3 rfl dX4_readItem_104 ?_
    refine j_aload_n (pc := 106) hk 0 rfl ⟨_, rfl⟩ dX4_readItem_106 ?_
    refine j_iload_n (pc := 107) hk 2 rfl dX4_readItem_107 ?_
    refine j_iload (pc := 108) hk 3 rfl dX4_readItem_108 ?_
    refine j_callSi (pc := 110) hk [.int v3, .int v5] [fk_r g 34, .int v5, fk_r g 35] rfl (fun l o hq9 => C4_most v3 v5 st22 l o hq9) yv_X4_most ml_4_73 rfl (Nat.le_of_ble_eq_true rfl) (Nat.le_of_ble_eq_true rfl) (Nat.le_of_ble_eq_true rfl) dX4_readItem_110 (fun x23 st24 => ?_)
    refine j_callVi (pc := 113) hk [.int x23] [.int v5, fk_r g 35] rfl (fun l o hq9 => C4_readNumber x23 st24 l o hq9) (rcv_4 (rfl)) yv_X4_readNumber ml_4_77 rfl (Nat.le_of_ble_eq_true rfl) (Nat.le_of_ble_eq_true rfl) (Nat.le_of_ble_eq_true rfl) dX4_readItem_113 (fun x25 st26 => ?_)
    refine a_istore (pc := 116) hk (isI_4_3 (rfl)) dX4_readItem_116 (fun st27 => ?_)
    refine j_iinc (dd := (1 : Int32)) (lv' := ((5, .int (v5 + (1 : Int32))) :: [(0, fk_r g 34), (1, fk_r g o1), (3, .int v3)])) (pc := 117) hk 3 rfl (by decide) (by decide) rfl dX4_readItem_117 ?_
    refine j_sub hk (lv' := [(0, fk_r g 34), (1, fk_r g o1), (3, .int v3), (5, .int (v5 + (1 : Int32)))]) [1, 2, 3, 0] rfl ?_
    refine j_goto (tgt := 85) (pc := 120) hk (by decide) dX4_readItem_120 ?_
    exact j_sub hk [0, 1, 2, 3] rfl (H85 v3 (v5 + (1 : Int32)) st27)
set_option maxHeartbeats 1000000 in
set_option maxRecDepth 20000 in
theorem L4_readItem_85 {g : fkG} {k : fkK} (o1 : Nat) (ho1 : kdC o1 = 0) (hk : fk_ok wC g k RX4 cX4_readItem 6 none 7 324) (fu : Nat) : ∀ (v3 : Int32) (v5 : Int32) (st : fkS), fk_J wC g fk_eU k 85 [(0, fk_r g 34), (1, fk_r g o1), (3, .int v3), (5, .int v5)] [] st (fk_lp2 (B4_readItem_85 o1) fu v3 v5 st) := by
  induction fu with
  | zero =>
    intro v3 v5 st
    exact j_none hk
  | succ fu ih =>
    exact T4_readItem_85 o1 ho1 hk _ ih
def B4_readItem_82 (o1 : Nat) (v3 : Int32) (st : fkS) : Option (Unit × fkS) :=
fk_lp2 (B4_readItem_85 o1) fk_fuel v3 (0 : Int32) st
set_option maxHeartbeats 1000000 in
set_option maxRecDepth 20000 in
theorem T4_readItem_82 {g : fkG} {k : fkK} (o1 : Nat) (ho1 : kdC o1 = 0) (hk : fk_ok wC g k RX4 cX4_readItem 6 none 7 324) : ∀ (v3 : Int32) (st : fkS), fk_J wC g fk_eU k 82 [(0, fk_r g 34), (1, fk_r g o1), (3, .int v3)] [] st (B4_readItem_82 o1 v3 st) := by
  intro v3 st
  unfold B4_readItem_82
  refine j_iconst (pc := 82) hk dX4_readItem_82 (v := 0) (by decide) ?_
  refine j_istore (lv' := ((5, .int (0 : Int32)) :: [(0, fk_r g 34), (1, fk_r g o1), (3, .int v3)])) (pc := 83) hk (by decide) rfl dX4_readItem_83 ?_
  refine j_sub hk (lv' := [(0, fk_r g 34), (1, fk_r g o1), (3, .int v3), (5, .int (0 : Int32))]) [1, 2, 3, 0] rfl ?_
  exact j_sub hk [0, 1, 2, 3] rfl (L4_readItem_85 o1 ho1 hk fk_fuel v3 (0 : Int32) st)
def B4_readItem_62 (o1 : Nat) (v2 : Int32) (v3 : Int32) (st : fkS) : Option (Unit × fkS) :=
if v3 = (98 : Int32) then
(fk_let (gI st 0 o1) <| fun x16 =>
if x16 < (7 : Int32) then
(B4_readItem_82 o1 v3 st)
else
(fk_bind (F4_fail v2 st) <| fun _ st17 =>
B4_readItem_82 o1 v3 st17))
else
(B4_readItem_82 o1 v3 st)
set_option maxHeartbeats 1000000 in
set_option maxRecDepth 20000 in
theorem T4_readItem_62 {g : fkG} {k : fkK} (o1 : Nat) (ho1 : kdC o1 = 0) (hk : fk_ok wC g k RX4 cX4_readItem 6 none 7 324) : ∀ (v2 : Int32) (v3 : Int32) (st : fkS), fk_J wC g fk_eU k 62 [(0, fk_r g 34), (1, fk_r g o1), (2, .int v2), (3, .int v3)] [] st (B4_readItem_62 o1 v2 v3 st) := by
  intro v2 v3 st
  unfold B4_readItem_62
  refine j_iload_n (pc := 62) hk 3 rfl dX4_readItem_62 ?_
  refine j_bipush (pc := 63) hk dX4_readItem_63 (v := 98) (by decide) ?_
  refine j_icmp_ne (tgt := 82) (pc := 65) hk (by decide) dX4_readItem_65 (fun _ => ?_) (fun _ => ?_)
  · refine j_aload_n (pc := 68) hk 1 rfl ⟨_, rfl⟩ dX4_readItem_68 ?_
    refine f_4_64 (pc := 69) hk (ho1) dX4_readItem_69 (fun x16 => ?_)
    refine j_bipush (pc := 72) hk dX4_readItem_72 (v := 7) (by decide) ?_
    refine j_icmp_lt (tgt := 82) (pc := 74) hk (by decide) dX4_readItem_74 (fun _ => ?_) (fun _ => ?_)
    · exact j_sub hk [0, 1, 3] rfl (T4_readItem_82 o1 ho1 hk v3 st)
    · refine j_aload_n (pc := 77) hk 0 rfl ⟨_, rfl⟩ dX4_readItem_77 ?_
      refine j_iload_n (pc := 78) hk 2 rfl dX4_readItem_78 ?_
      refine j_callVv (pc := 79) hk [.int v2] [] rfl (fun l o hq9 => C4_fail v2 st l o hq9) (rcv_4 (rfl)) yv_X4_fail ml_4_60 rfl (Nat.le_of_ble_eq_true rfl) (Nat.le_of_ble_eq_true rfl) (Nat.le_of_ble_eq_true rfl) dX4_readItem_79 (fun _ st17 => ?_)
      exact j_sub hk [0, 1, 3] rfl (T4_readItem_82 o1 ho1 hk v3 st17)
  · exact j_sub hk [0, 1, 3] rfl (T4_readItem_82 o1 ho1 hk v3 st)
def B4_readItem_19 (o1 : Nat) (k19 : Int32 → Int32 → Nat → Int32 → fkS → Option (Unit × fkS)) (v2 : Int32) (v3 : Int32) (v4 : Nat) (v5 : Int32) (st : fkS) : Option (Unit × fkS) :=
fk_bind (FS_len v4 st) <| fun x7 st8 =>
if x7 ≤ v5 then
(fk_bind (FS_empty v4 st8) <| fun x9 st10 =>
if x9 = 0 then
(B4_readItem_62 o1 v2 v3 st10)
else
(fk_let (gI st10 81 34) <| fun x11 =>
fk_bind (F4_fail x11 st10) <| fun _ st12 =>
B4_readItem_62 o1 v2 v3 st12))
else
(fk_bind (FS_char v4 v5 st8) <| fun x13 st14 =>
fk_bind (F4_expect x13 st14) <| fun _ st15 =>
k19 v2 v3 v4 (v5 + (1 : Int32)) st15)
set_option maxHeartbeats 1000000 in
set_option maxRecDepth 20000 in
theorem T4_readItem_19 {g : fkG} {k : fkK} (o1 : Nat) (ho1 : kdC o1 = 0) (hk : fk_ok wC g k RX4 cX4_readItem 6 none 7 324) (k19 : Int32 → Int32 → Nat → Int32 → fkS → Option (Unit × fkS)) (H19 : ∀ (v2 : Int32) (v3 : Int32) (v4 : Nat) (hv4 : v4 < 7) (v5 : Int32) (st : fkS), fk_J wC g fk_eU k 19 [(0, fk_r g 34), (1, fk_r g o1), (2, .int v2), (3, .int v3), (4, fk_q g v4), (5, .int v5)] [] st (k19 v2 v3 v4 v5 st)) : ∀ (v2 : Int32) (v3 : Int32) (v4 : Nat) (hv4 : v4 < 7) (v5 : Int32) (st : fkS), fk_J wC g fk_eU k 19 [(0, fk_r g 34), (1, fk_r g o1), (2, .int v2), (3, .int v3), (4, fk_q g v4), (5, .int v5)] [] st (B4_readItem_19 o1 k19 v2 v3 v4 v5 st) := by
  intro v2 v3 v4 hv4 v5 st
  unfold B4_readItem_19
  refine j_iload (pc := 19) hk 5 rfl dX4_readItem_19 ?_
  refine j_aload (pc := 21) hk 4 rfl ⟨_, rfl⟩ dX4_readItem_21 ?_
  refine j_slen (pc := 23) hk (hv4) ml_4_47 (Nat.le_of_ble_eq_true rfl) (Nat.le_of_ble_eq_true rfl) (Nat.le_of_ble_eq_true rfl) dX4_readItem_23 (fun x7 st8 => ?_)
  refine j_icmp_ge (tgt := 46) (pc := 26) hk (by decide) dX4_readItem_26 (fun _ => ?_) (fun _ => ?_)
  · refine j_aload (pc := 46) hk 4 rfl ⟨_, rfl⟩ dX4_readItem_46 ?_
    refine j_sempty (pc := 48) hk (hv4) ml_4_56 (Nat.le_of_ble_eq_true rfl) (Nat.le_of_ble_eq_true rfl) (Nat.le_of_ble_eq_true rfl) dX4_readItem_48 (fun x9 st10 => ?_)
    refine j_if_eq (tgt := 62) (pc := 51) hk (by decide) dX4_readItem_51 (fun _ => ?_) (fun _ => ?_)
    · exact j_sub hk [0, 1, 2, 3] rfl (T4_readItem_62 o1 ho1 hk v2 v3 st10)
    · refine j_aload_n (pc := 54) hk 0 rfl ⟨_, rfl⟩ dX4_readItem_54 ?_
      refine j_aload_n (pc := 55) hk 0 rfl ⟨_, rfl⟩ dX4_readItem_55 ?_
      refine f_4_15 (pc := 56) hk (rfl) dX4_readItem_56 (fun x11 => ?_)
      refine j_callVv (pc := 59) hk [.int x11] [] rfl (fun l o hq9 => C4_fail x11 st10 l o hq9) (rcv_4 (rfl)) yv_X4_fail ml_4_60 rfl (Nat.le_of_ble_eq_true rfl) (Nat.le_of_ble_eq_true rfl) (Nat.le_of_ble_eq_true rfl) dX4_readItem_59 (fun _ st12 => ?_)
      exact j_sub hk [0, 1, 2, 3] rfl (T4_readItem_62 o1 ho1 hk v2 v3 st12)
  · refine j_aload_n (pc := 29) hk 0 rfl ⟨_, rfl⟩ dX4_readItem_29 ?_
    refine j_aload (pc := 30) hk 4 rfl ⟨_, rfl⟩ dX4_readItem_30 ?_
    refine j_iload (pc := 32) hk 5 rfl dX4_readItem_32 ?_
    refine j_schar (pc := 34) hk (hv4) ml_4_52 (Nat.le_of_ble_eq_true rfl) (Nat.le_of_ble_eq_true rfl) (Nat.le_of_ble_eq_true rfl) dX4_readItem_34 (fun x13 st14 => ?_)
    refine j_callVv (pc := 37) hk [.int x13] [] rfl (fun l o hq9 => C4_expect x13 st14 l o hq9) (rcv_4 (rfl)) yv_X4_expect ml_4_26 rfl (Nat.le_of_ble_eq_true rfl) (Nat.le_of_ble_eq_true rfl) (Nat.le_of_ble_eq_true rfl) dX4_readItem_37 (fun _ st15 => ?_)
    refine j_iinc (dd := (1 : Int32)) (lv' := ((5, .int (v5 + (1 : Int32))) :: [(0, fk_r g 34), (1, fk_r g o1), (2, .int v2), (3, .int v3), (4, fk_q g v4)])) (pc := 40) hk 5 rfl (by decide) (by decide) rfl dX4_readItem_40 ?_
    refine j_sub hk (lv' := [(0, fk_r g 34), (1, fk_r g o1), (2, .int v2), (3, .int v3), (4, fk_q g v4), (5, .int (v5 + (1 : Int32)))]) [1, 2, 3, 4, 5, 0] rfl ?_
    refine j_goto (tgt := 19) (pc := 43) hk (by decide) dX4_readItem_43 ?_
    exact j_sub hk [0, 1, 2, 3, 4, 5] rfl (H19 v2 v3 v4 (hv4) (v5 + (1 : Int32)) st15)
set_option maxHeartbeats 1000000 in
set_option maxRecDepth 20000 in
theorem L4_readItem_19 {g : fkG} {k : fkK} (o1 : Nat) (ho1 : kdC o1 = 0) (hk : fk_ok wC g k RX4 cX4_readItem 6 none 7 324) (fu : Nat) : ∀ (v2 : Int32) (v3 : Int32) (v4 : Nat) (hv4 : v4 < 7) (v5 : Int32) (st : fkS), fk_J wC g fk_eU k 19 [(0, fk_r g 34), (1, fk_r g o1), (2, .int v2), (3, .int v3), (4, fk_q g v4), (5, .int v5)] [] st (fk_lp4 (B4_readItem_19 o1) fu v2 v3 v4 v5 st) := by
  induction fu with
  | zero =>
    intro v2 v3 v4 hv4 v5 st
    exact j_none hk
  | succ fu ih =>
    exact T4_readItem_19 o1 ho1 hk _ ih
def F4_readItem (o1 : Nat) (st : fkS) : Option (Unit × fkS) :=
fk_let (gI st 81 34) <| fun x1 =>
fk_bind (F4_letter st) <| fun x2 st3 =>
fk_bind (F4_wordThatBeginsWith x2 st3) <| fun x4 st5 =>
fk_chk (decide (x4 < 7)) <|
fk_lp4 (B4_readItem_19 o1) fk_fuel x1 x2 x4 (0 : Int32) st5
set_option maxHeartbeats 1000000 in
set_option maxRecDepth 20000 in
theorem C4_readItem (o1 : Nat) (ho1 : kdC o1 = 0) (st : fkS) {g : fkG} (l : Launch) (o : Unit × fkS) (hF : F4_readItem o1 st = some o) : fk_C wC yX4_readItem cX4_readItem 6 none 7 324 l g [fk_r g 34, fk_r g o1] st (fk_eU o.1) o.2 := by
  refine fk_begin rfl (Nat.le_of_ble_eq_true rfl) (fun k hk => ?_) o hF
  have hk : fk_ok wC g k RX4 cX4_readItem 6 none 7 324 := hk
  show fk_J wC g fk_eU k 0 [(0, fk_r g 34), (1, fk_r g o1)] [] st (F4_readItem o1 st)
  unfold F4_readItem
  refine j_aload_n (pc := 0) hk 0 rfl ⟨_, rfl⟩ dX4_readItem_0 ?_
  refine f_4_15 (pc := 1) hk (rfl) dX4_readItem_1 (fun x1 => ?_)
  refine j_istore_n (lv' := ((2, .int x1) :: [(0, fk_r g 34), (1, fk_r g o1)])) (pc := 4) hk rfl (by decide) rfl dX4_readItem_4 ?_
  refine j_sub hk (lv' := [(0, fk_r g 34), (1, fk_r g o1), (2, .int x1)]) [1, 2, 0] rfl ?_
  refine j_aload_n (pc := 5) hk 0 rfl ⟨_, rfl⟩ dX4_readItem_5 ?_
  refine j_callVi (pc := 6) hk [] [] rfl (fun l o hq9 => C4_letter st l o hq9) (rcv_4 (rfl)) yv_X4_letter ml_4_39 rfl (Nat.le_of_ble_eq_true rfl) (Nat.le_of_ble_eq_true rfl) (Nat.le_of_ble_eq_true rfl) dX4_readItem_6 (fun x2 st3 => ?_)
  refine j_istore_n (lv' := ((3, .int x2) :: [(0, fk_r g 34), (1, fk_r g o1), (2, .int x1)])) (pc := 9) hk rfl (by decide) rfl dX4_readItem_9 ?_
  refine j_sub hk (lv' := [(0, fk_r g 34), (1, fk_r g o1), (2, .int x1), (3, .int x2)]) [1, 2, 3, 0] rfl ?_
  refine j_iload_n (pc := 10) hk 3 rfl dX4_readItem_10 ?_
  refine j_callSq (pc := 11) hk [.int x2] [] rfl (fun l o hq9 => C4_wordThatBeginsWith x2 st3 l o hq9) yv_X4_wordThatBeginsWith ml_4_43 rfl (Nat.le_of_ble_eq_true rfl) (Nat.le_of_ble_eq_true rfl) (Nat.le_of_ble_eq_true rfl) dX4_readItem_11 (fun x4 st5 => ?_)
  refine j_chk (pc := 14) hk (fun hq6 => ?_)
  refine j_astore (lv' := ((4, fk_q g x4) :: [(0, fk_r g 34), (1, fk_r g o1), (2, .int x1), (3, .int x2)])) (pc := 14) hk ⟨_, rfl⟩ (by decide) rfl dX4_readItem_14 ?_
  refine j_sub hk (lv' := [(0, fk_r g 34), (1, fk_r g o1), (2, .int x1), (3, .int x2), (4, fk_q g x4)]) [1, 2, 3, 4, 0] rfl ?_
  refine j_iconst (pc := 16) hk dX4_readItem_16 (v := 0) (by decide) ?_
  refine j_istore (lv' := ((5, .int (0 : Int32)) :: [(0, fk_r g 34), (1, fk_r g o1), (2, .int x1), (3, .int x2), (4, fk_q g x4)])) (pc := 17) hk (by decide) rfl dX4_readItem_17 ?_
  refine j_sub hk (lv' := [(0, fk_r g 34), (1, fk_r g o1), (2, .int x1), (3, .int x2), (4, fk_q g x4), (5, .int (0 : Int32))]) [1, 2, 3, 4, 5, 0] rfl ?_
  exact j_sub hk [0, 1, 2, 3, 4, 5] rfl (L4_readItem_19 o1 ho1 hk fk_fuel x1 x2 x4 (of_decide_eq_true hq6) (0 : Int32) st5)
theorem dX4_read_0 : decode cX4_read 0 = .ok (.aload_n 0, 1) := by decide +kernel
theorem dX4_read_1 : decode cX4_read 1 = .ok (.aload_n 1, 1) := by decide +kernel
theorem dX4_read_2 : decode cX4_read 2 = .ok (.putfield 18, 3) := by decide +kernel
theorem dX4_read_5 : decode cX4_read 5 = .ok (.aload_n 0, 1) := by decide +kernel
theorem dX4_read_6 : decode cX4_read 6 = .ok (.iconst 0, 1) := by decide +kernel
theorem dX4_read_7 : decode cX4_read 7 = .ok (.putfield 15, 3) := by decide +kernel
theorem dX4_read_10 : decode cX4_read 10 = .ok (.aload_n 0, 1) := by decide +kernel
theorem dX4_read_11 : decode cX4_read 11 = .ok (.iconst (-1), 1) := by decide +kernel
theorem dX4_read_12 : decode cX4_read 12 = .ok (.putfield 9, 3) := by decide +kernel
theorem dX4_read_15 : decode cX4_read 15 = .ok (.iconst 0, 1) := by decide +kernel
theorem dX4_read_16 : decode cX4_read 16 = .ok (.istore_n 3, 1) := by decide +kernel
theorem dX4_read_17 : decode cX4_read 17 = .ok (.iload_n 3, 1) := by decide +kernel
theorem dX4_read_18 : decode cX4_read 18 = .ok (.ifCond .le 9, 3) := by decide +kernel
theorem dX4_read_21 : decode cX4_read 21 = .ok (.aload_n 0, 1) := by decide +kernel
theorem dX4_read_22 : decode cX4_read 22 = .ok (.bipush 59, 2) := by decide +kernel
theorem dX4_read_24 : decode cX4_read 24 = .ok (.invokevirtual 26, 3) := by decide +kernel
theorem dX4_read_27 : decode cX4_read 27 = .ok (.aload_n 0, 1) := by decide +kernel
theorem dX4_read_28 : decode cX4_read 28 = .ok (.aload_n 2, 1) := by decide +kernel
theorem dX4_read_29 : decode cX4_read 29 = .ok (.invokevirtual 30, 3) := by decide +kernel
theorem dX4_read_32 : decode cX4_read 32 = .ok (.iinc 3 1, 3) := by decide +kernel
theorem dX4_read_35 : decode cX4_read 35 = .ok (.aload_n 0, 1) := by decide +kernel
theorem dX4_read_36 : decode cX4_read 36 = .ok (.getfield 9, 3) := by decide +kernel
theorem dX4_read_39 : decode cX4_read 39 = .ok (.iconst (-1), 1) := by decide +kernel
theorem dX4_read_40 : decode cX4_read 40 = .ok (.if_icmp .ne 21, 3) := by decide +kernel
theorem dX4_read_43 : decode cX4_read 43 = .ok (.aload_n 0, 1) := by decide +kernel
theorem dX4_read_44 : decode cX4_read 44 = .ok (.getfield 15, 3) := by decide +kernel
theorem dX4_read_47 : decode cX4_read 47 = .ok (.aload_n 1, 1) := by decide +kernel
theorem dX4_read_48 : decode cX4_read 48 = .ok (.getfield 34, 3) := by decide +kernel
theorem dX4_read_51 : decode cX4_read 51 = .ok (.if_icmp .ge 10, 3) := by decide +kernel
theorem dX4_read_54 : decode cX4_read 54 = .ok (.iload_n 3, 1) := by decide +kernel
theorem dX4_read_55 : decode cX4_read 55 = .ok (.sipush 160, 3) := by decide +kernel
theorem dX4_read_58 : decode cX4_read 58 = .ok (.if_icmp .lt (-41), 3) := by decide +kernel
theorem dX4_read_61 : decode cX4_read 61 = .ok (.iload_n 3, 1) := by decide +kernel
theorem dX4_read_62 : decode cX4_read 62 = .ok (.ireturn, 1) := by decide +kernel
def B4_read_27 (o1 : Nat) (o2 : Nat) (k17 : Int32 → fkS → Option (Int32 × fkS)) (v3 : Int32) (st : fkS) : Option (Int32 × fkS) :=
fk_bind (F4_readItem o2 st) <| fun _ st5 =>
fk_let (gI st5 80 34) <| fun x6 =>
if x6 = (-1 : Int32) then
(fk_let (gI st5 81 34) <| fun x7 =>
fk_let (gI st5 103 o1) <| fun x8 =>
if x8 ≤ x7 then
(some ((v3 + (1 : Int32)), st5))
else
(if (v3 + (1 : Int32)) < (160 : Int32) then
(k17 (v3 + (1 : Int32)) st5)
else
(some ((v3 + (1 : Int32)), st5))))
else
(some ((v3 + (1 : Int32)), st5))
set_option maxHeartbeats 1000000 in
set_option maxRecDepth 20000 in
theorem T4_read_27 {g : fkG} {k : fkK} (o1 : Nat) (o2 : Nat) (ho1 : kdC o1 = 5) (ho2 : kdC o2 = 0) (hk : fk_ok wC g k RX4 cX4_read 4 (some (.int)) 8 349) (k17 : Int32 → fkS → Option (Int32 × fkS)) (H17 : ∀ (v3 : Int32) (st : fkS), fk_J wC g fk_eI k 17 [(0, fk_r g 34), (1, fk_r g o1), (2, fk_r g o2), (3, .int v3)] [] st (k17 v3 st)) : ∀ (v3 : Int32) (st : fkS), fk_J wC g fk_eI k 27 [(0, fk_r g 34), (1, fk_r g o1), (2, fk_r g o2), (3, .int v3)] [] st (B4_read_27 o1 o2 k17 v3 st) := by
  intro v3 st
  unfold B4_read_27
  refine j_aload_n (pc := 27) hk 0 rfl ⟨_, rfl⟩ dX4_read_27 ?_
  refine j_aload_n (pc := 28) hk 2 rfl ⟨_, rfl⟩ dX4_read_28 ?_
  refine j_callVv (pc := 29) hk [fk_r g o2] [] rfl (fun l o hq9 => C4_readItem o2 (ho2) st l o hq9) (rcv_4 (rfl)) yv_X4_readItem ml_4_30 rfl (Nat.le_of_ble_eq_true rfl) (Nat.le_of_ble_eq_true rfl) (Nat.le_of_ble_eq_true rfl) dX4_read_29 (fun _ st5 => ?_)
  refine j_iinc (dd := (1 : Int32)) (lv' := ((3, .int (v3 + (1 : Int32))) :: [(0, fk_r g 34), (1, fk_r g o1), (2, fk_r g o2)])) (pc := 32) hk 3 rfl (by decide) (by decide) rfl dX4_read_32 ?_
  refine j_sub hk (lv' := [(0, fk_r g 34), (1, fk_r g o1), (2, fk_r g o2), (3, .int (v3 + (1 : Int32)))]) [1, 2, 3, 0] rfl ?_
  refine j_aload_n (pc := 35) hk 0 rfl ⟨_, rfl⟩ dX4_read_35 ?_
  refine f_4_9 (pc := 36) hk (rfl) dX4_read_36 (fun x6 => ?_)
  refine j_iconst (pc := 39) hk dX4_read_39 (v := -1) (by decide) ?_
  refine j_icmp_ne (tgt := 61) (pc := 40) hk (by decide) dX4_read_40 (fun _ => ?_) (fun _ => ?_)
  · refine j_aload_n (pc := 43) hk 0 rfl ⟨_, rfl⟩ dX4_read_43 ?_
    refine f_4_15 (pc := 44) hk (rfl) dX4_read_44 (fun x7 => ?_)
    refine j_aload_n (pc := 47) hk 1 rfl ⟨_, rfl⟩ dX4_read_47 ?_
    refine f_4_34 (pc := 48) hk (ho1) dX4_read_48 (fun x8 => ?_)
    refine j_icmp_ge (tgt := 61) (pc := 51) hk (by decide) dX4_read_51 (fun _ => ?_) (fun _ => ?_)
    · refine j_iload_n (pc := 61) hk 3 rfl dX4_read_61 ?_
      exact j_iret (pc := 62) hk dX4_read_62
    · refine j_iload_n (pc := 54) hk 3 rfl dX4_read_54 ?_
      refine j_sipush (pc := 55) hk dX4_read_55 (v := 160) (by decide) ?_
      refine j_icmp_lt (tgt := 17) (pc := 58) hk (by decide) dX4_read_58 (fun _ => ?_) (fun _ => ?_)
      · exact j_sub hk [0, 1, 2, 3] rfl (H17 (v3 + (1 : Int32)) st5)
      · refine j_iload_n (pc := 61) hk 3 rfl dX4_read_61 ?_
        exact j_iret (pc := 62) hk dX4_read_62
  · refine j_iload_n (pc := 61) hk 3 rfl dX4_read_61 ?_
    exact j_iret (pc := 62) hk dX4_read_62
def B4_read_17 (o1 : Nat) (o2 : Nat) (k17 : Int32 → fkS → Option (Int32 × fkS)) (v3 : Int32) (st : fkS) : Option (Int32 × fkS) :=
if v3 ≤ 0 then
(B4_read_27 o1 o2 k17 v3 st)
else
(fk_bind (F4_expect (59 : Int32) st) <| fun _ st4 =>
B4_read_27 o1 o2 k17 v3 st4)
set_option maxHeartbeats 1000000 in
set_option maxRecDepth 20000 in
theorem T4_read_17 {g : fkG} {k : fkK} (o1 : Nat) (o2 : Nat) (ho1 : kdC o1 = 5) (ho2 : kdC o2 = 0) (hk : fk_ok wC g k RX4 cX4_read 4 (some (.int)) 8 349) (k17 : Int32 → fkS → Option (Int32 × fkS)) (H17 : ∀ (v3 : Int32) (st : fkS), fk_J wC g fk_eI k 17 [(0, fk_r g 34), (1, fk_r g o1), (2, fk_r g o2), (3, .int v3)] [] st (k17 v3 st)) : ∀ (v3 : Int32) (st : fkS), fk_J wC g fk_eI k 17 [(0, fk_r g 34), (1, fk_r g o1), (2, fk_r g o2), (3, .int v3)] [] st (B4_read_17 o1 o2 k17 v3 st) := by
  intro v3 st
  unfold B4_read_17
  refine j_iload_n (pc := 17) hk 3 rfl dX4_read_17 ?_
  refine j_if_le (tgt := 27) (pc := 18) hk (by decide) dX4_read_18 (fun _ => ?_) (fun _ => ?_)
  · exact j_sub hk [0, 1, 2, 3] rfl (T4_read_27 o1 o2 ho1 ho2 hk k17 H17 v3 st)
  · refine j_aload_n (pc := 21) hk 0 rfl ⟨_, rfl⟩ dX4_read_21 ?_
    refine j_bipush (pc := 22) hk dX4_read_22 (v := 59) (by decide) ?_
    refine j_callVv (pc := 24) hk [.int (59 : Int32)] [] rfl (fun l o hq9 => C4_expect (59 : Int32) st l o hq9) (rcv_4 (rfl)) yv_X4_expect ml_4_26 rfl (Nat.le_of_ble_eq_true rfl) (Nat.le_of_ble_eq_true rfl) (Nat.le_of_ble_eq_true rfl) dX4_read_24 (fun _ st4 => ?_)
    exact j_sub hk [0, 1, 2, 3] rfl (T4_read_27 o1 o2 ho1 ho2 hk k17 H17 v3 st4)
set_option maxHeartbeats 1000000 in
set_option maxRecDepth 20000 in
theorem L4_read_17 {g : fkG} {k : fkK} (o1 : Nat) (o2 : Nat) (ho1 : kdC o1 = 5) (ho2 : kdC o2 = 0) (hk : fk_ok wC g k RX4 cX4_read 4 (some (.int)) 8 349) (fu : Nat) : ∀ (v3 : Int32) (st : fkS), fk_J wC g fk_eI k 17 [(0, fk_r g 34), (1, fk_r g o1), (2, fk_r g o2), (3, .int v3)] [] st (fk_lp1 (B4_read_17 o1 o2) fu v3 st) := by
  induction fu with
  | zero =>
    intro v3 st
    exact j_none hk
  | succ fu ih =>
    exact T4_read_17 o1 o2 ho1 ho2 hk _ ih
def F4_read (o1 : Nat) (o2 : Nat) (st : fkS) : Option (Int32 × fkS) :=
fk_let (sT st (some o1)) <| fun st1 =>
fk_let (sI st1 81 34 (0 : Int32)) <| fun st2 =>
fk_let (sI st2 80 34 (-1 : Int32)) <| fun st3 =>
fk_lp1 (B4_read_17 o1 o2) fk_fuel (0 : Int32) st3
set_option maxHeartbeats 1000000 in
set_option maxRecDepth 20000 in
theorem C4_read (o1 : Nat) (o2 : Nat) (ho1 : kdC o1 = 5) (ho2 : kdC o2 = 0) (st : fkS) {g : fkG} (l : Launch) (o : Int32 × fkS) (hF : F4_read o1 o2 st = some o) : fk_C wC yX4_read cX4_read 4 (some (.int)) 8 349 l g [fk_r g 34, fk_r g o1, fk_r g o2] st (fk_eI o.1) o.2 := by
  refine fk_begin rfl (Nat.le_of_ble_eq_true rfl) (fun k hk => ?_) o hF
  have hk : fk_ok wC g k RX4 cX4_read 4 (some (.int)) 8 349 := hk
  show fk_J wC g fk_eI k 0 [(0, fk_r g 34), (1, fk_r g o1), (2, fk_r g o2)] [] st (F4_read o1 o2 st)
  unfold F4_read
  refine j_aload_n (pc := 0) hk 0 rfl ⟨_, rfl⟩ dX4_read_0 ?_
  refine j_aload_n (pc := 1) hk 1 rfl ⟨_, rfl⟩ dX4_read_1 ?_
  refine p_4_18 (pc := 2) hk dX4_read_2 (fun st1 => ?_)
  refine j_aload_n (pc := 5) hk 0 rfl ⟨_, rfl⟩ dX4_read_5 ?_
  refine j_iconst (pc := 6) hk dX4_read_6 (v := 0) (by decide) ?_
  refine p_4_15 (pc := 7) hk (rfl) dX4_read_7 (fun st2 => ?_)
  refine j_aload_n (pc := 10) hk 0 rfl ⟨_, rfl⟩ dX4_read_10 ?_
  refine j_iconst (pc := 11) hk dX4_read_11 (v := -1) (by decide) ?_
  refine p_4_9 (pc := 12) hk (rfl) dX4_read_12 (fun st3 => ?_)
  refine j_iconst (pc := 15) hk dX4_read_15 (v := 0) (by decide) ?_
  refine j_istore_n (lv' := ((3, .int (0 : Int32)) :: [(0, fk_r g 34), (1, fk_r g o1), (2, fk_r g o2)])) (pc := 16) hk rfl (by decide) rfl dX4_read_16 ?_
  refine j_sub hk (lv' := [(0, fk_r g 34), (1, fk_r g o1), (2, fk_r g o2), (3, .int (0 : Int32))]) [1, 2, 3, 0] rfl ?_
  exact j_sub hk [0, 1, 2, 3] rfl (L4_read_17 o1 o2 ho1 ho2 hk fk_fuel (0 : Int32) st3)
theorem dX5_holdNothing_0 : decode cX5_holdNothing 0 = .ok (.aload_n 0, 1) := by decide +kernel
theorem dX5_holdNothing_1 : decode cX5_holdNothing 1 = .ok (.iconst 0, 1) := by decide +kernel
theorem dX5_holdNothing_2 : decode cX5_holdNothing 2 = .ok (.putfield 11, 3) := by decide +kernel
theorem dX5_holdNothing_5 : decode cX5_holdNothing 5 = .ok (.aload_n 0, 1) := by decide +kernel
theorem dX5_holdNothing_6 : decode cX5_holdNothing 6 = .ok (.iconst 0, 1) := by decide +kernel
theorem dX5_holdNothing_7 : decode cX5_holdNothing 7 = .ok (.putfield 21, 3) := by decide +kernel
theorem dX5_holdNothing_10 : decode cX5_holdNothing 10 = .ok (.return_, 1) := by decide +kernel
def F5_holdNothing (h : Nat) (st : fkS) : Option (Unit × fkS) :=
fk_let (sI st 100 h (0 : Int32)) <| fun st1 =>
fk_let (sI st1 103 h (0 : Int32)) <| fun st2 =>
some ((), st2)
set_option maxHeartbeats 1000000 in
set_option maxRecDepth 20000 in
theorem C5_holdNothing (h : Nat) (hh : kdC h = 5) (st : fkS) {g : fkG} (l : Launch) (o : Unit × fkS) (hF : F5_holdNothing h st = some o) : fk_C wC yX5_holdNothing cX5_holdNothing 1 none 0 0 l g [fk_r g h] st (fk_eU o.1) o.2 := by
  refine fk_begin rfl (Nat.le_of_ble_eq_true rfl) (fun k hk => ?_) o hF
  have hk : fk_ok wC g k RX5 cX5_holdNothing 1 none 0 0 := hk
  show fk_J wC g fk_eU k 0 [(0, fk_r g h)] [] st (F5_holdNothing h st)
  unfold F5_holdNothing
  refine j_aload_n (pc := 0) hk 0 rfl ⟨_, rfl⟩ dX5_holdNothing_0 ?_
  refine j_iconst (pc := 1) hk dX5_holdNothing_1 (v := 0) (by decide) ?_
  refine p_5_11 (pc := 2) hk (hh) dX5_holdNothing_2 (fun st1 => ?_)
  refine j_aload_n (pc := 5) hk 0 rfl ⟨_, rfl⟩ dX5_holdNothing_5 ?_
  refine j_iconst (pc := 6) hk dX5_holdNothing_6 (v := 0) (by decide) ?_
  refine p_5_21 (pc := 7) hk (hh) dX5_holdNothing_7 (fun st2 => ?_)
  exact j_vret (pc := 10) hk dX5_holdNothing_10
theorem dX5_holdBird_0 : decode cX5_holdBird 0 = .ok (.aload_n 0, 1) := by decide +kernel
theorem dX5_holdBird_1 : decode cX5_holdBird 1 = .ok (.iconst 1, 1) := by decide +kernel
theorem dX5_holdBird_2 : decode cX5_holdBird 2 = .ok (.putfield 11, 3) := by decide +kernel
theorem dX5_holdBird_5 : decode cX5_holdBird 5 = .ok (.aload_n 0, 1) := by decide +kernel
theorem dX5_holdBird_6 : decode cX5_holdBird 6 = .ok (.iload_n 1, 1) := by decide +kernel
theorem dX5_holdBird_7 : decode cX5_holdBird 7 = .ok (.putfield 15, 3) := by decide +kernel
theorem dX5_holdBird_10 : decode cX5_holdBird 10 = .ok (.aload_n 0, 1) := by decide +kernel
theorem dX5_holdBird_11 : decode cX5_holdBird 11 = .ok (.iconst 0, 1) := by decide +kernel
theorem dX5_holdBird_12 : decode cX5_holdBird 12 = .ok (.putfield 21, 3) := by decide +kernel
theorem dX5_holdBird_15 : decode cX5_holdBird 15 = .ok (.return_, 1) := by decide +kernel
def F5_holdBird (h : Nat) (p1 : Int32) (st : fkS) : Option (Unit × fkS) :=
fk_let (sI st 100 h (1 : Int32)) <| fun st1 =>
fk_let (sI st1 101 h p1) <| fun st2 =>
fk_let (sI st2 103 h (0 : Int32)) <| fun st3 =>
some ((), st3)
set_option maxHeartbeats 1000000 in
set_option maxRecDepth 20000 in
theorem C5_holdBird (h : Nat) (hh : kdC h = 5) (p1 : Int32) (st : fkS) {g : fkG} (l : Launch) (o : Unit × fkS) (hF : F5_holdBird h p1 st = some o) : fk_C wC yX5_holdBird cX5_holdBird 2 none 0 0 l g [fk_r g h, .int p1] st (fk_eU o.1) o.2 := by
  refine fk_begin rfl (Nat.le_of_ble_eq_true rfl) (fun k hk => ?_) o hF
  have hk : fk_ok wC g k RX5 cX5_holdBird 2 none 0 0 := hk
  show fk_J wC g fk_eU k 0 [(0, fk_r g h), (1, .int p1)] [] st (F5_holdBird h p1 st)
  unfold F5_holdBird
  refine j_aload_n (pc := 0) hk 0 rfl ⟨_, rfl⟩ dX5_holdBird_0 ?_
  refine j_iconst (pc := 1) hk dX5_holdBird_1 (v := 1) (by decide) ?_
  refine p_5_11 (pc := 2) hk (hh) dX5_holdBird_2 (fun st1 => ?_)
  refine j_aload_n (pc := 5) hk 0 rfl ⟨_, rfl⟩ dX5_holdBird_5 ?_
  refine j_iload_n (pc := 6) hk 1 rfl dX5_holdBird_6 ?_
  refine p_5_15 (pc := 7) hk (hh) dX5_holdBird_7 (fun st2 => ?_)
  refine j_aload_n (pc := 10) hk 0 rfl ⟨_, rfl⟩ dX5_holdBird_10 ?_
  refine j_iconst (pc := 11) hk dX5_holdBird_11 (v := 0) (by decide) ?_
  refine p_5_21 (pc := 12) hk (hh) dX5_holdBird_12 (fun st3 => ?_)
  exact j_vret (pc := 15) hk dX5_holdBird_15
theorem dX5_holdRow_0 : decode cX5_holdRow 0 = .ok (.aload_n 0, 1) := by decide +kernel
theorem dX5_holdRow_1 : decode cX5_holdRow 1 = .ok (.iconst 2, 1) := by decide +kernel
theorem dX5_holdRow_2 : decode cX5_holdRow 2 = .ok (.putfield 11, 3) := by decide +kernel
theorem dX5_holdRow_5 : decode cX5_holdRow 5 = .ok (.aload_n 0, 1) := by decide +kernel
theorem dX5_holdRow_6 : decode cX5_holdRow 6 = .ok (.iload_n 1, 1) := by decide +kernel
theorem dX5_holdRow_7 : decode cX5_holdRow 7 = .ok (.putfield 18, 3) := by decide +kernel
theorem dX5_holdRow_10 : decode cX5_holdRow 10 = .ok (.aload_n 0, 1) := by decide +kernel
theorem dX5_holdRow_11 : decode cX5_holdRow 11 = .ok (.iconst 0, 1) := by decide +kernel
theorem dX5_holdRow_12 : decode cX5_holdRow 12 = .ok (.iload_n 2, 1) := by decide +kernel
theorem dX5_holdRow_13 : decode cX5_holdRow 13 = .ok (.sipush 160, 3) := by decide +kernel
theorem dX5_holdRow_16 : decode cX5_holdRow 16 = .ok (.invokestatic 28, 3) := by decide +kernel
theorem dX5_holdRow_19 : decode cX5_holdRow 19 = .ok (.invokestatic 34, 3) := by decide +kernel
theorem dX5_holdRow_22 : decode cX5_holdRow 22 = .ok (.putfield 21, 3) := by decide +kernel
theorem dX5_holdRow_25 : decode cX5_holdRow 25 = .ok (.iconst 0, 1) := by decide +kernel
theorem dX5_holdRow_26 : decode cX5_holdRow 26 = .ok (.istore_n 3, 1) := by decide +kernel
theorem dX5_holdRow_27 : decode cX5_holdRow 27 = .ok (.iload_n 3, 1) := by decide +kernel
theorem dX5_holdRow_28 : decode cX5_holdRow 28 = .ok (.aload_n 0, 1) := by decide +kernel
theorem dX5_holdRow_29 : decode cX5_holdRow 29 = .ok (.getfield 21, 3) := by decide +kernel
theorem dX5_holdRow_32 : decode cX5_holdRow 32 = .ok (.if_icmp .ge 16, 3) := by decide +kernel
theorem dX5_holdRow_35 : decode cX5_holdRow 35 = .ok (.aload_n 0, 1) := by decide +kernel
theorem dX5_holdRow_36 : decode cX5_holdRow 36 = .ok (.getfield 24, 3) := by decide +kernel
theorem dX5_holdRow_39 : decode cX5_holdRow 39 = .ok (.iload_n 3, 1) := by decide +kernel
theorem dX5_holdRow_40 : decode cX5_holdRow 40 = .ok (.lconst 0, 1) := by decide +kernel
theorem dX5_holdRow_41 : decode cX5_holdRow 41 = .ok (.lastore, 1) := by decide +kernel
theorem dX5_holdRow_42 : decode cX5_holdRow 42 = .ok (.iinc 3 1, 3) := by decide +kernel
theorem dX5_holdRow_45 : decode cX5_holdRow 45 = .ok (.goto (-18), 3) := by decide +kernel
theorem dX5_holdRow_48 : decode cX5_holdRow 48 = .ok (.return_, 1) := by decide +kernel
def B5_holdRow_27 (h : Nat) (k27 : Int32 → fkS → Option (Unit × fkS)) (v3 : Int32) (st : fkS) : Option (Unit × fkS) :=
fk_let (gI st 103 h) <| fun x4 =>
if x4 ≤ v3 then
(some ((), st))
else
(fk_chk (fk_in v3 160) <| fk_let (sL st (h + 8) v3.toNatClampNeg (0 : Int64)) <| fun st5 =>
k27 (v3 + (1 : Int32)) st5)
set_option maxHeartbeats 1000000 in
set_option maxRecDepth 20000 in
theorem T5_holdRow_27 {g : fkG} {k : fkK} (h : Nat) (hh : kdC h = 5) (hk : fk_ok wC g k RX5 cX5_holdRow 4 none 1 100) (k27 : Int32 → fkS → Option (Unit × fkS)) (H27 : ∀ (v3 : Int32) (st : fkS), fk_J wC g fk_eU k 27 [(0, fk_r g h), (3, .int v3)] [] st (k27 v3 st)) : ∀ (v3 : Int32) (st : fkS), fk_J wC g fk_eU k 27 [(0, fk_r g h), (3, .int v3)] [] st (B5_holdRow_27 h k27 v3 st) := by
  intro v3 st
  unfold B5_holdRow_27
  refine j_iload_n (pc := 27) hk 1 rfl dX5_holdRow_27 ?_
  refine j_aload_n (pc := 28) hk 0 rfl ⟨_, rfl⟩ dX5_holdRow_28 ?_
  refine f_5_21 (pc := 29) hk (hh) dX5_holdRow_29 (fun x4 => ?_)
  refine j_icmp_ge (tgt := 48) (pc := 32) hk (by decide) dX5_holdRow_32 (fun _ => ?_) (fun _ => ?_)
  · exact j_vret (pc := 48) hk dX5_holdRow_48
  · refine j_aload_n (pc := 35) hk 0 rfl ⟨_, rfl⟩ dX5_holdRow_35 ?_
    refine f_5_24 (pc := 36) hk (hh) dX5_holdRow_36 ?_
    refine j_iload_n (pc := 39) hk 1 rfl dX5_holdRow_39 ?_
    refine j_lconst (pc := 40) hk dX5_holdRow_40 (v := 0) (by decide) ?_
    refine a_lstore (pc := 41) hk (isL_5_4 (hh)) dX5_holdRow_41 (fun st5 => ?_)
    refine j_iinc (dd := (1 : Int32)) (lv' := ((3, .int (v3 + (1 : Int32))) :: [(0, fk_r g h)])) (pc := 42) hk 1 rfl (by decide) (by decide) rfl dX5_holdRow_42 ?_
    refine j_sub hk (lv' := [(0, fk_r g h), (3, .int (v3 + (1 : Int32)))]) [1, 0] rfl ?_
    refine j_goto (tgt := 27) (pc := 45) hk (by decide) dX5_holdRow_45 ?_
    exact j_sub hk [0, 1] rfl (H27 (v3 + (1 : Int32)) st5)
set_option maxHeartbeats 1000000 in
set_option maxRecDepth 20000 in
theorem L5_holdRow_27 {g : fkG} {k : fkK} (h : Nat) (hh : kdC h = 5) (hk : fk_ok wC g k RX5 cX5_holdRow 4 none 1 100) (fu : Nat) : ∀ (v3 : Int32) (st : fkS), fk_J wC g fk_eU k 27 [(0, fk_r g h), (3, .int v3)] [] st (fk_lp1 (B5_holdRow_27 h) fu v3 st) := by
  induction fu with
  | zero =>
    intro v3 st
    exact j_none hk
  | succ fu ih =>
    exact T5_holdRow_27 h hh hk _ ih
def F5_holdRow (h : Nat) (p1 : Int32) (p2 : Int32) (st : fkS) : Option (Unit × fkS) :=
fk_let (sI st 100 h (2 : Int32)) <| fun st1 =>
fk_let (sI st1 102 h p1) <| fun st2 =>
fk_let (sI st2 103 h (fk_max (0 : Int32) (fk_min p2 (160 : Int32)))) <| fun st3 =>
fk_lp1 (B5_holdRow_27 h) fk_fuel (0 : Int32) st3
set_option maxHeartbeats 1000000 in
set_option maxRecDepth 20000 in
theorem C5_holdRow (h : Nat) (hh : kdC h = 5) (p1 : Int32) (p2 : Int32) (st : fkS) {g : fkG} (l : Launch) (o : Unit × fkS) (hF : F5_holdRow h p1 p2 st = some o) : fk_C wC yX5_holdRow cX5_holdRow 4 none 1 100 l g [fk_r g h, .int p1, .int p2] st (fk_eU o.1) o.2 := by
  refine fk_begin rfl (Nat.le_of_ble_eq_true rfl) (fun k hk => ?_) o hF
  have hk : fk_ok wC g k RX5 cX5_holdRow 4 none 1 100 := hk
  show fk_J wC g fk_eU k 0 [(0, fk_r g h), (1, .int p1), (2, .int p2)] [] st (F5_holdRow h p1 p2 st)
  unfold F5_holdRow
  refine j_aload_n (pc := 0) hk 0 rfl ⟨_, rfl⟩ dX5_holdRow_0 ?_
  refine j_iconst (pc := 1) hk dX5_holdRow_1 (v := 2) (by decide) ?_
  refine p_5_11 (pc := 2) hk (hh) dX5_holdRow_2 (fun st1 => ?_)
  refine j_aload_n (pc := 5) hk 0 rfl ⟨_, rfl⟩ dX5_holdRow_5 ?_
  refine j_iload_n (pc := 6) hk 1 rfl dX5_holdRow_6 ?_
  refine p_5_18 (pc := 7) hk (hh) dX5_holdRow_7 (fun st2 => ?_)
  refine j_aload_n (pc := 10) hk 0 rfl ⟨_, rfl⟩ dX5_holdRow_10 ?_
  refine j_iconst (pc := 11) hk dX5_holdRow_11 (v := 0) (by decide) ?_
  refine j_iload_n (pc := 12) hk 2 rfl dX5_holdRow_12 ?_
  refine j_sipush (pc := 13) hk dX5_holdRow_13 (v := 160) (by decide) ?_
  refine j_mmin (pc := 16) hk ml_5_28 wd_min1 wd_math wd_min2 (Nat.le_of_ble_eq_true rfl) (Nat.le_of_ble_eq_true rfl) dX5_holdRow_16 ?_
  refine j_mmax (pc := 19) hk ml_5_34 wd_max1 wd_math wd_max2 (Nat.le_of_ble_eq_true rfl) (Nat.le_of_ble_eq_true rfl) dX5_holdRow_19 ?_
  refine p_5_21 (pc := 22) hk (hh) dX5_holdRow_22 (fun st3 => ?_)
  refine j_iconst (pc := 25) hk dX5_holdRow_25 (v := 0) (by decide) ?_
  refine j_istore_n (lv' := ((3, .int (0 : Int32)) :: [(0, fk_r g h), (1, .int p1), (2, .int p2)])) (pc := 26) hk rfl (by decide) rfl dX5_holdRow_26 ?_
  refine j_sub hk (lv' := [(0, fk_r g h), (1, .int p1), (2, .int p2), (3, .int (0 : Int32))]) [1, 2, 3, 0] rfl ?_
  exact j_sub hk [0, 3] rfl (L5_holdRow_27 h hh hk fk_fuel (0 : Int32) st3)
theorem dX5_put_0 : decode cX5_put 0 = .ok (.iload_n 1, 1) := by decide +kernel
theorem dX5_put_1 : decode cX5_put 1 = .ok (.ifCond .lt 11, 3) := by decide +kernel
theorem dX5_put_4 : decode cX5_put 4 = .ok (.iload_n 1, 1) := by decide +kernel
theorem dX5_put_5 : decode cX5_put 5 = .ok (.aload_n 0, 1) := by decide +kernel
theorem dX5_put_6 : decode cX5_put 6 = .ok (.getfield 21, 3) := by decide +kernel
theorem dX5_put_9 : decode cX5_put 9 = .ok (.if_icmp .lt 4, 3) := by decide +kernel
theorem dX5_put_12 : decode cX5_put 12 = .ok (.return_, 1) := by decide +kernel
theorem dX5_put_13 : decode cX5_put 13 = .ok (.aload_n 0, 1) := by decide +kernel
theorem dX5_put_14 : decode cX5_put 14 = .ok (.getfield 18, 3) := by decide +kernel
theorem dX5_put_17 : decode cX5_put 17 = .ok (.tableswitch 65 0 2 #[27, 40, 53], 27) := by decide +kernel
theorem dX5_put_44 : decode cX5_put 44 = .ok (.aload_n 0, 1) := by decide +kernel
theorem dX5_put_45 : decode cX5_put 45 = .ok (.getfield 24, 3) := by decide +kernel
theorem dX5_put_48 : decode cX5_put 48 = .ok (.iload_n 1, 1) := by decide +kernel
theorem dX5_put_49 : decode cX5_put 49 = .ok (.lload_n 2, 1) := by decide +kernel
theorem dX5_put_50 : decode cX5_put 50 = .ok (.l2i, 1) := by decide +kernel
theorem dX5_put_51 : decode cX5_put 51 = .ok (.i2b, 1) := by decide +kernel
theorem dX5_put_52 : decode cX5_put 52 = .ok (.i2l, 1) := by decide +kernel
theorem dX5_put_53 : decode cX5_put 53 = .ok (.lastore, 1) := by decide +kernel
theorem dX5_put_54 : decode cX5_put 54 = .ok (.goto 35, 3) := by decide +kernel
theorem dX5_put_57 : decode cX5_put 57 = .ok (.aload_n 0, 1) := by decide +kernel
theorem dX5_put_58 : decode cX5_put 58 = .ok (.getfield 24, 3) := by decide +kernel
theorem dX5_put_61 : decode cX5_put 61 = .ok (.iload_n 1, 1) := by decide +kernel
theorem dX5_put_62 : decode cX5_put 62 = .ok (.lload_n 2, 1) := by decide +kernel
theorem dX5_put_63 : decode cX5_put 63 = .ok (.l2i, 1) := by decide +kernel
theorem dX5_put_64 : decode cX5_put 64 = .ok (.i2s, 1) := by decide +kernel
theorem dX5_put_65 : decode cX5_put 65 = .ok (.i2l, 1) := by decide +kernel
theorem dX5_put_66 : decode cX5_put 66 = .ok (.lastore, 1) := by decide +kernel
theorem dX5_put_67 : decode cX5_put 67 = .ok (.goto 22, 3) := by decide +kernel
theorem dX5_put_70 : decode cX5_put 70 = .ok (.aload_n 0, 1) := by decide +kernel
theorem dX5_put_71 : decode cX5_put 71 = .ok (.getfield 24, 3) := by decide +kernel
theorem dX5_put_74 : decode cX5_put 74 = .ok (.iload_n 1, 1) := by decide +kernel
theorem dX5_put_75 : decode cX5_put 75 = .ok (.lload_n 2, 1) := by decide +kernel
theorem dX5_put_76 : decode cX5_put 76 = .ok (.l2i, 1) := by decide +kernel
theorem dX5_put_77 : decode cX5_put 77 = .ok (.i2l, 1) := by decide +kernel
theorem dX5_put_78 : decode cX5_put 78 = .ok (.lastore, 1) := by decide +kernel
theorem dX5_put_79 : decode cX5_put 79 = .ok (.goto 10, 3) := by decide +kernel
theorem dX5_put_82 : decode cX5_put 82 = .ok (.aload_n 0, 1) := by decide +kernel
theorem dX5_put_83 : decode cX5_put 83 = .ok (.getfield 24, 3) := by decide +kernel
theorem dX5_put_86 : decode cX5_put 86 = .ok (.iload_n 1, 1) := by decide +kernel
theorem dX5_put_87 : decode cX5_put 87 = .ok (.lload_n 2, 1) := by decide +kernel
theorem dX5_put_88 : decode cX5_put 88 = .ok (.lastore, 1) := by decide +kernel
theorem dX5_put_89 : decode cX5_put 89 = .ok (.return_, 1) := by decide +kernel
def F5_put (h : Nat) (p1 : Int32) (p2 : Int64) (st : fkS) : Option (Unit × fkS) :=
if p1 < 0 then
(some ((), st))
else
(fk_let (gI st 103 h) <| fun x1 =>
if p1 < x1 then
(fk_let (gI st 102 h) <| fun x2 =>
if x2 = (0 : Int32) then
(fk_chk (fk_in p1 160) <| fk_let (sL st (h + 8) p1.toNatClampNeg p2.toInt32.toInt8.toInt32.toInt64) <| fun st4 =>
some ((), st4))
else
(if x2 = (1 : Int32) then
(fk_chk (fk_in p1 160) <| fk_let (sL st (h + 8) p1.toNatClampNeg p2.toInt32.toInt16.toInt32.toInt64) <| fun st6 =>
some ((), st6))
else
(if x2 = (2 : Int32) then
(fk_chk (fk_in p1 160) <| fk_let (sL st (h + 8) p1.toNatClampNeg p2.toInt32.toInt64) <| fun st8 =>
some ((), st8))
else
(fk_chk (fk_in p1 160) <| fk_let (sL st (h + 8) p1.toNatClampNeg p2) <| fun st9 =>
some ((), st9)))))
else
(some ((), st)))
set_option maxHeartbeats 1000000 in
set_option maxRecDepth 20000 in
theorem C5_put (h : Nat) (hh : kdC h = 5) (p1 : Int32) (p2 : Int64) (st : fkS) {g : fkG} (l : Launch) (o : Unit × fkS) (hF : F5_put h p1 p2 st = some o) : fk_C wC yX5_put cX5_put 4 none 0 0 l g [fk_r g h, .int p1, .long p2] st (fk_eU o.1) o.2 := by
  refine fk_begin rfl (Nat.le_of_ble_eq_true rfl) (fun k hk => ?_) o hF
  have hk : fk_ok wC g k RX5 cX5_put 4 none 0 0 := hk
  show fk_J wC g fk_eU k 0 [(0, fk_r g h), (1, .int p1), (2, .long p2)] [] st (F5_put h p1 p2 st)
  unfold F5_put
  refine j_iload_n (pc := 0) hk 1 rfl dX5_put_0 ?_
  refine j_if_lt (tgt := 12) (pc := 1) hk (by decide) dX5_put_1 (fun _ => ?_) (fun _ => ?_)
  · exact j_vret (pc := 12) hk dX5_put_12
  · refine j_iload_n (pc := 4) hk 1 rfl dX5_put_4 ?_
    refine j_aload_n (pc := 5) hk 0 rfl ⟨_, rfl⟩ dX5_put_5 ?_
    refine f_5_21 (pc := 6) hk (hh) dX5_put_6 (fun x1 => ?_)
    refine j_icmp_lt (tgt := 13) (pc := 9) hk (by decide) dX5_put_9 (fun _ => ?_) (fun _ => ?_)
    · refine j_aload_n (pc := 13) hk 0 rfl ⟨_, rfl⟩ dX5_put_13 ?_
      refine f_5_18 (pc := 14) hk (hh) dX5_put_14 (fun x2 => ?_)
      refine j_case (pc := 17) hk (fun n3 => ?_) (fun n3 => ?_)
      · refine j_tswIn (off := 27) (tgt := 44) (pc := 17) hk (by rw [n3]; decide) (by rw [n3]; decide) (by rw [n3]; decide) (by decide) dX5_put_17 ?_
        refine j_aload_n (pc := 44) hk 0 rfl ⟨_, rfl⟩ dX5_put_44 ?_
        refine f_5_24 (pc := 45) hk (hh) dX5_put_45 ?_
        refine j_iload_n (pc := 48) hk 1 rfl dX5_put_48 ?_
        refine j_lload_n (pc := 49) hk 2 rfl dX5_put_49 ?_
        refine j_l2i (pc := 50) hk dX5_put_50 ?_
        refine j_i2b (pc := 51) hk dX5_put_51 ?_
        refine j_i2l (pc := 52) hk dX5_put_52 ?_
        refine a_lstore (pc := 53) hk (isL_5_4 (hh)) dX5_put_53 (fun st4 => ?_)
        refine j_goto (tgt := 89) (pc := 54) hk (by decide) dX5_put_54 ?_
        exact j_vret (pc := 89) hk dX5_put_89
      · refine j_case (pc := 17) hk (fun n5 => ?_) (fun n5 => ?_)
        · refine j_tswIn (off := 40) (tgt := 57) (pc := 17) hk (by rw [n5]; decide) (by rw [n5]; decide) (by rw [n5]; decide) (by decide) dX5_put_17 ?_
          refine j_aload_n (pc := 57) hk 0 rfl ⟨_, rfl⟩ dX5_put_57 ?_
          refine f_5_24 (pc := 58) hk (hh) dX5_put_58 ?_
          refine j_iload_n (pc := 61) hk 1 rfl dX5_put_61 ?_
          refine j_lload_n (pc := 62) hk 2 rfl dX5_put_62 ?_
          refine j_l2i (pc := 63) hk dX5_put_63 ?_
          refine j_i2s (pc := 64) hk dX5_put_64 ?_
          refine j_i2l (pc := 65) hk dX5_put_65 ?_
          refine a_lstore (pc := 66) hk (isL_5_4 (hh)) dX5_put_66 (fun st6 => ?_)
          refine j_goto (tgt := 89) (pc := 67) hk (by decide) dX5_put_67 ?_
          exact j_vret (pc := 89) hk dX5_put_89
        · refine j_case (pc := 17) hk (fun n7 => ?_) (fun n7 => ?_)
          · refine j_tswIn (off := 53) (tgt := 70) (pc := 17) hk (by rw [n7]; decide) (by rw [n7]; decide) (by rw [n7]; decide) (by decide) dX5_put_17 ?_
            refine j_aload_n (pc := 70) hk 0 rfl ⟨_, rfl⟩ dX5_put_70 ?_
            refine f_5_24 (pc := 71) hk (hh) dX5_put_71 ?_
            refine j_iload_n (pc := 74) hk 1 rfl dX5_put_74 ?_
            refine j_lload_n (pc := 75) hk 2 rfl dX5_put_75 ?_
            refine j_l2i (pc := 76) hk dX5_put_76 ?_
            refine j_i2l (pc := 77) hk dX5_put_77 ?_
            refine a_lstore (pc := 78) hk (isL_5_4 (hh)) dX5_put_78 (fun st8 => ?_)
            refine j_goto (tgt := 89) (pc := 79) hk (by decide) dX5_put_79 ?_
            exact j_vret (pc := 89) hk dX5_put_89
          · have mn3 := lv_neT (a := 0) n3 (by decide)
            have mn5 := lv_neT (a := 1) n5 (by decide)
            have mn7 := lv_neT (a := 2) n7 (by decide)
            refine j_tswOut (tgt := 82) (pc := 17) hk (by omega) (by decide) dX5_put_17 ?_
            refine j_aload_n (pc := 82) hk 0 rfl ⟨_, rfl⟩ dX5_put_82 ?_
            refine f_5_24 (pc := 83) hk (hh) dX5_put_83 ?_
            refine j_iload_n (pc := 86) hk 1 rfl dX5_put_86 ?_
            refine j_lload_n (pc := 87) hk 2 rfl dX5_put_87 ?_
            refine a_lstore (pc := 88) hk (isL_5_4 (hh)) dX5_put_88 (fun st9 => ?_)
            exact j_vret (pc := 89) hk dX5_put_89
    · exact j_vret (pc := 12) hk dX5_put_12
theorem dX5_hasSpan_0 : decode cX5_hasSpan 0 = .ok (.iload_n 1, 1) := by decide +kernel
theorem dX5_hasSpan_1 : decode cX5_hasSpan 1 = .ok (.ifCond .lt 25, 3) := by decide +kernel
theorem dX5_hasSpan_4 : decode cX5_hasSpan 4 = .ok (.iload_n 2, 1) := by decide +kernel
theorem dX5_hasSpan_5 : decode cX5_hasSpan 5 = .ok (.ifCond .lt 21, 3) := by decide +kernel
theorem dX5_hasSpan_8 : decode cX5_hasSpan 8 = .ok (.iload_n 1, 1) := by decide +kernel
theorem dX5_hasSpan_9 : decode cX5_hasSpan 9 = .ok (.i2l, 1) := by decide +kernel
theorem dX5_hasSpan_10 : decode cX5_hasSpan 10 = .ok (.iload_n 2, 1) := by decide +kernel
theorem dX5_hasSpan_11 : decode cX5_hasSpan 11 = .ok (.i2l, 1) := by decide +kernel
theorem dX5_hasSpan_12 : decode cX5_hasSpan 12 = .ok (.ladd, 1) := by decide +kernel
theorem dX5_hasSpan_13 : decode cX5_hasSpan 13 = .ok (.aload_n 0, 1) := by decide +kernel
theorem dX5_hasSpan_14 : decode cX5_hasSpan 14 = .ok (.getfield 21, 3) := by decide +kernel
theorem dX5_hasSpan_17 : decode cX5_hasSpan 17 = .ok (.i2l, 1) := by decide +kernel
theorem dX5_hasSpan_18 : decode cX5_hasSpan 18 = .ok (.lcmp, 1) := by decide +kernel
theorem dX5_hasSpan_19 : decode cX5_hasSpan 19 = .ok (.ifCond .gt 7, 3) := by decide +kernel
theorem dX5_hasSpan_22 : decode cX5_hasSpan 22 = .ok (.iconst 1, 1) := by decide +kernel
theorem dX5_hasSpan_23 : decode cX5_hasSpan 23 = .ok (.goto 4, 3) := by decide +kernel
theorem dX5_hasSpan_26 : decode cX5_hasSpan 26 = .ok (.iconst 0, 1) := by decide +kernel
theorem dX5_hasSpan_27 : decode cX5_hasSpan 27 = .ok (.ireturn, 1) := by decide +kernel
def F5_hasSpan (h : Nat) (p1 : Int32) (p2 : Int32) (st : fkS) : Option (Int32 × fkS) :=
if p1 < 0 then
(some ((0 : Int32), st))
else
(if p2 < 0 then
(some ((0 : Int32), st))
else
(fk_let (gI st 103 h) <| fun x1 =>
if 0 < (lg_cmp (p1.toInt64 + p2.toInt64) x1.toInt64) then
(some ((0 : Int32), st))
else
(some ((1 : Int32), st))))
set_option maxHeartbeats 1000000 in
set_option maxRecDepth 20000 in
theorem C5_hasSpan (h : Nat) (hh : kdC h = 5) (p1 : Int32) (p2 : Int32) (st : fkS) {g : fkG} (l : Launch) (o : Int32 × fkS) (hF : F5_hasSpan h p1 p2 st = some o) : fk_C wC yX5_hasSpan cX5_hasSpan 3 (some (.boolean)) 0 0 l g [fk_r g h, .int p1, .int p2] st (fk_eI o.1) o.2 := by
  refine fk_begin rfl (Nat.le_of_ble_eq_true rfl) (fun k hk => ?_) o hF
  have hk : fk_ok wC g k RX5 cX5_hasSpan 3 (some (.boolean)) 0 0 := hk
  show fk_J wC g fk_eI k 0 [(0, fk_r g h), (1, .int p1), (2, .int p2)] [] st (F5_hasSpan h p1 p2 st)
  unfold F5_hasSpan
  refine j_iload_n (pc := 0) hk 1 rfl dX5_hasSpan_0 ?_
  refine j_if_lt (tgt := 26) (pc := 1) hk (by decide) dX5_hasSpan_1 (fun _ => ?_) (fun _ => ?_)
  · refine j_iconst (pc := 26) hk dX5_hasSpan_26 (v := 0) (by decide) ?_
    exact j_zret (pc := 27) hk rfl dX5_hasSpan_27
  · refine j_iload_n (pc := 4) hk 2 rfl dX5_hasSpan_4 ?_
    refine j_if_lt (tgt := 26) (pc := 5) hk (by decide) dX5_hasSpan_5 (fun _ => ?_) (fun _ => ?_)
    · refine j_iconst (pc := 26) hk dX5_hasSpan_26 (v := 0) (by decide) ?_
      exact j_zret (pc := 27) hk rfl dX5_hasSpan_27
    · refine j_iload_n (pc := 8) hk 1 rfl dX5_hasSpan_8 ?_
      refine j_i2l (pc := 9) hk dX5_hasSpan_9 ?_
      refine j_iload_n (pc := 10) hk 2 rfl dX5_hasSpan_10 ?_
      refine j_i2l (pc := 11) hk dX5_hasSpan_11 ?_
      refine j_ladd (pc := 12) hk dX5_hasSpan_12 ?_
      refine j_aload_n (pc := 13) hk 0 rfl ⟨_, rfl⟩ dX5_hasSpan_13 ?_
      refine f_5_21 (pc := 14) hk (hh) dX5_hasSpan_14 (fun x1 => ?_)
      refine j_i2l (pc := 17) hk dX5_hasSpan_17 ?_
      refine j_lcmp (pc := 18) hk dX5_hasSpan_18 ?_
      refine j_if_gt (tgt := 26) (pc := 19) hk (by decide) dX5_hasSpan_19 (fun _ => ?_) (fun _ => ?_)
      · refine j_iconst (pc := 26) hk dX5_hasSpan_26 (v := 0) (by decide) ?_
        exact j_zret (pc := 27) hk rfl dX5_hasSpan_27
      · refine j_iconst (pc := 22) hk dX5_hasSpan_22 (v := 1) (by decide) ?_
        refine j_goto (tgt := 27) (pc := 23) hk (by decide) dX5_hasSpan_23 ?_
        exact j_zret (pc := 27) hk rfl dX5_hasSpan_27
theorem dX6_take_0 : decode cX6_take 0 = .ok (.aload_n 1, 1) := by decide +kernel
theorem dX6_take_1 : decode cX6_take 1 = .ok (.iload_n 2, 1) := by decide +kernel
theorem dX6_take_2 : decode cX6_take 2 = .ok (.invokevirtual 31, 3) := by decide +kernel
theorem dX6_take_5 : decode cX6_take 5 = .ok (.ifCond .eq 4, 3) := by decide +kernel
theorem dX6_take_8 : decode cX6_take 8 = .ok (.return_, 1) := by decide +kernel
theorem dX6_take_9 : decode cX6_take 9 = .ok (.aload_n 0, 1) := by decide +kernel
theorem dX6_take_10 : decode cX6_take 10 = .ok (.aload_n 1, 1) := by decide +kernel
theorem dX6_take_11 : decode cX6_take 11 = .ok (.getfield 37, 3) := by decide +kernel
theorem dX6_take_14 : decode cX6_take 14 = .ok (.iload_n 2, 1) := by decide +kernel
theorem dX6_take_15 : decode cX6_take 15 = .ok (.iaload, 1) := by decide +kernel
theorem dX6_take_16 : decode cX6_take 16 = .ok (.putfield 9, 3) := by decide +kernel
theorem dX6_take_19 : decode cX6_take 19 = .ok (.aload_n 0, 1) := by decide +kernel
theorem dX6_take_20 : decode cX6_take 20 = .ok (.aload_n 1, 1) := by decide +kernel
theorem dX6_take_21 : decode cX6_take 21 = .ok (.getfield 40, 3) := by decide +kernel
theorem dX6_take_24 : decode cX6_take 24 = .ok (.iload_n 2, 1) := by decide +kernel
theorem dX6_take_25 : decode cX6_take 25 = .ok (.iaload, 1) := by decide +kernel
theorem dX6_take_26 : decode cX6_take 26 = .ok (.putfield 15, 3) := by decide +kernel
theorem dX6_take_29 : decode cX6_take 29 = .ok (.aload_n 0, 1) := by decide +kernel
theorem dX6_take_30 : decode cX6_take 30 = .ok (.aload_n 1, 1) := by decide +kernel
theorem dX6_take_31 : decode cX6_take 31 = .ok (.getfield 43, 3) := by decide +kernel
theorem dX6_take_34 : decode cX6_take 34 = .ok (.iload_n 2, 1) := by decide +kernel
theorem dX6_take_35 : decode cX6_take 35 = .ok (.iaload, 1) := by decide +kernel
theorem dX6_take_36 : decode cX6_take 36 = .ok (.putfield 18, 3) := by decide +kernel
theorem dX6_take_39 : decode cX6_take 39 = .ok (.aload_n 0, 1) := by decide +kernel
theorem dX6_take_40 : decode cX6_take 40 = .ok (.aload_n 1, 1) := by decide +kernel
theorem dX6_take_41 : decode cX6_take 41 = .ok (.getfield 46, 3) := by decide +kernel
theorem dX6_take_44 : decode cX6_take 44 = .ok (.putfield 21, 3) := by decide +kernel
theorem dX6_take_47 : decode cX6_take 47 = .ok (.return_, 1) := by decide +kernel
def F6_take (h : Nat) (o1 : Nat) (p2 : Int32) (st : fkS) : Option (Unit × fkS) :=
fk_bind (F0_lacks o1 p2 st) <| fun x1 st2 =>
if x1 = 0 then
(fk_chk (fk_in p2 7) <| fk_let (gA st2 (o1 + 3) p2.toNatClampNeg) <| fun x3 =>
fk_let (sI st2 120 h x3) <| fun st4 =>
fk_chk (fk_in p2 7) <| fk_let (gA st4 (o1 + 6) p2.toNatClampNeg) <| fun x5 =>
fk_let (sI st4 121 h x5) <| fun st6 =>
fk_chk (fk_in p2 7) <| fk_let (gA st6 (o1 + 9) p2.toNatClampNeg) <| fun x7 =>
fk_let (sI st6 122 h x7) <| fun st8 =>
fk_let (gI st8 5 o1) <| fun x9 =>
fk_let (sI st8 123 h x9) <| fun st10 =>
some ((), st10))
else
(some ((), st2))
set_option maxHeartbeats 1000000 in
set_option maxRecDepth 20000 in
theorem C6_take (h : Nat) (o1 : Nat) (hh : kdC h = 6) (ho1 : kdC o1 = 0) (p2 : Int32) (st : fkS) {g : fkG} (l : Launch) (o : Unit × fkS) (hF : F6_take h o1 p2 st = some o) : fk_C wC yX6_take cX6_take 3 none 1 21 l g [fk_r g h, fk_r g o1, .int p2] st (fk_eU o.1) o.2 := by
  refine fk_begin rfl (Nat.le_of_ble_eq_true rfl) (fun k hk => ?_) o hF
  have hk : fk_ok wC g k RX6 cX6_take 3 none 1 21 := hk
  show fk_J wC g fk_eU k 0 [(0, fk_r g h), (1, fk_r g o1), (2, .int p2)] [] st (F6_take h o1 p2 st)
  unfold F6_take
  refine j_aload_n (pc := 0) hk 1 rfl ⟨_, rfl⟩ dX6_take_0 ?_
  refine j_iload_n (pc := 1) hk 2 rfl dX6_take_1 ?_
  refine j_callVNi (pc := 2) hk [.int p2] [] rfl (fun l o hq9 => C0_lacks o1 (ho1) p2 st l o hq9) (rcv_0 (ho1)) yv_X0_lacks ml_6_31 rfl (Nat.le_of_ble_eq_true rfl) (Nat.le_of_ble_eq_true rfl) (Nat.le_of_ble_eq_true rfl) dX6_take_2 (fun x1 st2 => ?_)
  refine j_if_eq (tgt := 9) (pc := 5) hk (by decide) dX6_take_5 (fun _ => ?_) (fun _ => ?_)
  · refine j_aload_n (pc := 9) hk 0 rfl ⟨_, rfl⟩ dX6_take_9 ?_
    refine j_aload_n (pc := 10) hk 1 rfl ⟨_, rfl⟩ dX6_take_10 ?_
    refine f_6_37 (pc := 11) hk (ho1) dX6_take_11 ?_
    refine j_iload_n (pc := 14) hk 2 rfl dX6_take_14 ?_
    refine a_iload (pc := 15) hk (isI_0_1 (ho1)) dX6_take_15 (fun x3 => ?_)
    refine p_6_9 (pc := 16) hk (hh) dX6_take_16 (fun st4 => ?_)
    refine j_aload_n (pc := 19) hk 0 rfl ⟨_, rfl⟩ dX6_take_19 ?_
    refine j_aload_n (pc := 20) hk 1 rfl ⟨_, rfl⟩ dX6_take_20 ?_
    refine f_6_40 (pc := 21) hk (ho1) dX6_take_21 ?_
    refine j_iload_n (pc := 24) hk 2 rfl dX6_take_24 ?_
    refine a_iload (pc := 25) hk (isI_0_2 (ho1)) dX6_take_25 (fun x5 => ?_)
    refine p_6_15 (pc := 26) hk (hh) dX6_take_26 (fun st6 => ?_)
    refine j_aload_n (pc := 29) hk 0 rfl ⟨_, rfl⟩ dX6_take_29 ?_
    refine j_aload_n (pc := 30) hk 1 rfl ⟨_, rfl⟩ dX6_take_30 ?_
    refine f_6_43 (pc := 31) hk (ho1) dX6_take_31 ?_
    refine j_iload_n (pc := 34) hk 2 rfl dX6_take_34 ?_
    refine a_iload (pc := 35) hk (isI_0_3 (ho1)) dX6_take_35 (fun x7 => ?_)
    refine p_6_18 (pc := 36) hk (hh) dX6_take_36 (fun st8 => ?_)
    refine j_aload_n (pc := 39) hk 0 rfl ⟨_, rfl⟩ dX6_take_39 ?_
    refine j_aload_n (pc := 40) hk 1 rfl ⟨_, rfl⟩ dX6_take_40 ?_
    refine f_6_46 (pc := 41) hk (ho1) dX6_take_41 (fun x9 => ?_)
    refine p_6_21 (pc := 44) hk (hh) dX6_take_44 (fun st10 => ?_)
    exact j_vret (pc := 47) hk dX6_take_47
  · exact j_vret (pc := 8) hk dX6_take_8
theorem dX6_sayLayers_0 : decode cX6_sayLayers 0 = .ok (.aload_n 0, 1) := by decide +kernel
theorem dX6_sayLayers_1 : decode cX6_sayLayers 1 = .ok (.iconst 0, 1) := by decide +kernel
theorem dX6_sayLayers_2 : decode cX6_sayLayers 2 = .ok (.aload_n 1, 1) := by decide +kernel
theorem dX6_sayLayers_3 : decode cX6_sayLayers 3 = .ok (.getfield 69, 3) := by decide +kernel
theorem dX6_sayLayers_6 : decode cX6_sayLayers 6 = .ok (.aload_n 0, 1) := by decide +kernel
theorem dX6_sayLayers_7 : decode cX6_sayLayers 7 = .ok (.getfield 21, 3) := by decide +kernel
theorem dX6_sayLayers_10 : decode cX6_sayLayers 10 = .ok (.invokestatic 74, 3) := by decide +kernel
theorem dX6_sayLayers_13 : decode cX6_sayLayers 13 = .ok (.bipush 8, 2) := by decide +kernel
theorem dX6_sayLayers_15 : decode cX6_sayLayers 15 = .ok (.invokestatic 74, 3) := by decide +kernel
theorem dX6_sayLayers_18 : decode cX6_sayLayers 18 = .ok (.invokestatic 80, 3) := by decide +kernel
theorem dX6_sayLayers_21 : decode cX6_sayLayers 21 = .ok (.putfield 24, 3) := by decide +kernel
theorem dX6_sayLayers_24 : decode cX6_sayLayers 24 = .ok (.iconst 0, 1) := by decide +kernel
theorem dX6_sayLayers_25 : decode cX6_sayLayers 25 = .ok (.istore_n 2, 1) := by decide +kernel
theorem dX6_sayLayers_26 : decode cX6_sayLayers 26 = .ok (.iload_n 2, 1) := by decide +kernel
theorem dX6_sayLayers_27 : decode cX6_sayLayers 27 = .ok (.aload_n 0, 1) := by decide +kernel
theorem dX6_sayLayers_28 : decode cX6_sayLayers 28 = .ok (.getfield 24, 3) := by decide +kernel
theorem dX6_sayLayers_31 : decode cX6_sayLayers 31 = .ok (.if_icmp .ge 36, 3) := by decide +kernel
theorem dX6_sayLayers_34 : decode cX6_sayLayers 34 = .ok (.aload_n 0, 1) := by decide +kernel
theorem dX6_sayLayers_35 : decode cX6_sayLayers 35 = .ok (.getfield 27, 3) := by decide +kernel
theorem dX6_sayLayers_38 : decode cX6_sayLayers 38 = .ok (.iload_n 2, 1) := by decide +kernel
theorem dX6_sayLayers_39 : decode cX6_sayLayers 39 = .ok (.iconst 2, 1) := by decide +kernel
theorem dX6_sayLayers_40 : decode cX6_sayLayers 40 = .ok (.aload_n 1, 1) := by decide +kernel
theorem dX6_sayLayers_41 : decode cX6_sayLayers 41 = .ok (.getfield 83, 3) := by decide +kernel
theorem dX6_sayLayers_44 : decode cX6_sayLayers 44 = .ok (.iload_n 2, 1) := by decide +kernel
theorem dX6_sayLayers_45 : decode cX6_sayLayers 45 = .ok (.iaload, 1) := by decide +kernel
theorem dX6_sayLayers_46 : decode cX6_sayLayers 46 = .ok (.imul, 1) := by decide +kernel
theorem dX6_sayLayers_47 : decode cX6_sayLayers 47 = .ok (.aload_n 0, 1) := by decide +kernel
theorem dX6_sayLayers_48 : decode cX6_sayLayers 48 = .ok (.getfield 21, 3) := by decide +kernel
theorem dX6_sayLayers_51 : decode cX6_sayLayers 51 = .ok (.iadd, 1) := by decide +kernel
theorem dX6_sayLayers_52 : decode cX6_sayLayers 52 = .ok (.aload_n 0, 1) := by decide +kernel
theorem dX6_sayLayers_53 : decode cX6_sayLayers 53 = .ok (.getfield 18, 3) := by decide +kernel
theorem dX6_sayLayers_56 : decode cX6_sayLayers 56 = .ok (.iadd, 1) := by decide +kernel
theorem dX6_sayLayers_57 : decode cX6_sayLayers 57 = .ok (.bipush 20, 2) := by decide +kernel
theorem dX6_sayLayers_59 : decode cX6_sayLayers 59 = .ok (.irem, 1) := by decide +kernel
theorem dX6_sayLayers_60 : decode cX6_sayLayers 60 = .ok (.iastore, 1) := by decide +kernel
theorem dX6_sayLayers_61 : decode cX6_sayLayers 61 = .ok (.iinc 2 1, 3) := by decide +kernel
theorem dX6_sayLayers_64 : decode cX6_sayLayers 64 = .ok (.goto (-38), 3) := by decide +kernel
theorem dX6_sayLayers_67 : decode cX6_sayLayers 67 = .ok (.return_, 1) := by decide +kernel
def B6_sayLayers_26 (h : Nat) (k26 : Int32 → fkS → Option (Unit × fkS)) (v2 : Int32) (st : fkS) : Option (Unit × fkS) :=
fk_let (gI st 124 h) <| fun x4 =>
if x4 ≤ v2 then
(some ((), st))
else
(fk_chk (fk_in v2 8) <| fk_let (gA st 39 v2.toNatClampNeg) <| fun x5 =>
fk_let (gI st 123 h) <| fun x6 =>
fk_let (gI st 122 h) <| fun x7 =>
fk_chk (fk_in v2 16) <| fk_let (sA st (h + 2) v2.toNatClampNeg (fk_rem ((((2 : Int32) * x5) + x6) + x7) (20 : Int32))) <| fun st8 =>
k26 (v2 + (1 : Int32)) st8)
set_option maxHeartbeats 1000000 in
set_option maxRecDepth 20000 in
theorem T6_sayLayers_26 {g : fkG} {k : fkK} (h : Nat) (hh : kdC h = 6) (hk : fk_ok wC g k RX6 cX6_sayLayers 3 none 1 100) (k26 : Int32 → fkS → Option (Unit × fkS)) (H26 : ∀ (v2 : Int32) (st : fkS), fk_J wC g fk_eU k 26 [(0, fk_r g h), (1, fk_r g 38), (2, .int v2)] [] st (k26 v2 st)) : ∀ (v2 : Int32) (st : fkS), fk_J wC g fk_eU k 26 [(0, fk_r g h), (1, fk_r g 38), (2, .int v2)] [] st (B6_sayLayers_26 h k26 v2 st) := by
  intro v2 st
  unfold B6_sayLayers_26
  refine j_iload_n (pc := 26) hk 2 rfl dX6_sayLayers_26 ?_
  refine j_aload_n (pc := 27) hk 0 rfl ⟨_, rfl⟩ dX6_sayLayers_27 ?_
  refine f_6_24 (pc := 28) hk (hh) dX6_sayLayers_28 (fun x4 => ?_)
  refine j_icmp_ge (tgt := 67) (pc := 31) hk (by decide) dX6_sayLayers_31 (fun _ => ?_) (fun _ => ?_)
  · exact j_vret (pc := 67) hk dX6_sayLayers_67
  · refine j_aload_n (pc := 34) hk 0 rfl ⟨_, rfl⟩ dX6_sayLayers_34 ?_
    refine f_6_27 (pc := 35) hk (hh) dX6_sayLayers_35 ?_
    refine j_iload_n (pc := 38) hk 2 rfl dX6_sayLayers_38 ?_
    refine j_iconst (pc := 39) hk dX6_sayLayers_39 (v := 2) (by decide) ?_
    refine j_aload_n (pc := 40) hk 1 rfl ⟨_, rfl⟩ dX6_sayLayers_40 ?_
    refine f_6_83 (pc := 41) hk (rfl) dX6_sayLayers_41 ?_
    refine j_iload_n (pc := 44) hk 2 rfl dX6_sayLayers_44 ?_
    refine a_iload (pc := 45) hk (isI_3_0 (rfl)) dX6_sayLayers_45 (fun x5 => ?_)
    refine j_imul (pc := 46) hk dX6_sayLayers_46 ?_
    refine j_aload_n (pc := 47) hk 0 rfl ⟨_, rfl⟩ dX6_sayLayers_47 ?_
    refine f_6_21 (pc := 48) hk (hh) dX6_sayLayers_48 (fun x6 => ?_)
    refine j_iadd (pc := 51) hk dX6_sayLayers_51 ?_
    refine j_aload_n (pc := 52) hk 0 rfl ⟨_, rfl⟩ dX6_sayLayers_52 ?_
    refine f_6_18 (pc := 53) hk (hh) dX6_sayLayers_53 (fun x7 => ?_)
    refine j_iadd (pc := 56) hk dX6_sayLayers_56 ?_
    refine j_bipush (pc := 57) hk dX6_sayLayers_57 (v := 20) (by decide) ?_
    refine j_irem (pc := 59) hk (show fk_nz (20 : Int32) = true from by decide) dX6_sayLayers_59 ?_
    refine a_istore (pc := 60) hk (isI_6_5 (hh)) dX6_sayLayers_60 (fun st8 => ?_)
    refine j_iinc (dd := (1 : Int32)) (lv' := ((2, .int (v2 + (1 : Int32))) :: [(0, fk_r g h), (1, fk_r g 38)])) (pc := 61) hk 2 rfl (by decide) (by decide) rfl dX6_sayLayers_61 ?_
    refine j_sub hk (lv' := [(0, fk_r g h), (1, fk_r g 38), (2, .int (v2 + (1 : Int32)))]) [1, 2, 0] rfl ?_
    refine j_goto (tgt := 26) (pc := 64) hk (by decide) dX6_sayLayers_64 ?_
    exact j_sub hk [0, 1, 2] rfl (H26 (v2 + (1 : Int32)) st8)
set_option maxHeartbeats 1000000 in
set_option maxRecDepth 20000 in
theorem L6_sayLayers_26 {g : fkG} {k : fkK} (h : Nat) (hh : kdC h = 6) (hk : fk_ok wC g k RX6 cX6_sayLayers 3 none 1 100) (fu : Nat) : ∀ (v2 : Int32) (st : fkS), fk_J wC g fk_eU k 26 [(0, fk_r g h), (1, fk_r g 38), (2, .int v2)] [] st (fk_lp1 (B6_sayLayers_26 h) fu v2 st) := by
  induction fu with
  | zero =>
    intro v2 st
    exact j_none hk
  | succ fu ih =>
    exact T6_sayLayers_26 h hh hk _ ih
def F6_sayLayers (h : Nat) (st : fkS) : Option (Unit × fkS) :=
fk_let (gI st 61 38) <| fun x1 =>
fk_let (gI st 123 h) <| fun x2 =>
fk_let (sI st 124 h (fk_max (0 : Int32) (fk_min (fk_min x1 x2) (8 : Int32)))) <| fun st3 =>
fk_lp1 (B6_sayLayers_26 h) fk_fuel (0 : Int32) st3
set_option maxHeartbeats 1000000 in
set_option maxRecDepth 20000 in
theorem C6_sayLayers (h : Nat) (hh : kdC h = 6) (st : fkS) {g : fkG} (l : Launch) (o : Unit × fkS) (hF : F6_sayLayers h st = some o) : fk_C wC yX6_sayLayers cX6_sayLayers 3 none 1 100 l g [fk_r g h, fk_r g 38] st (fk_eU o.1) o.2 := by
  refine fk_begin rfl (Nat.le_of_ble_eq_true rfl) (fun k hk => ?_) o hF
  have hk : fk_ok wC g k RX6 cX6_sayLayers 3 none 1 100 := hk
  show fk_J wC g fk_eU k 0 [(0, fk_r g h), (1, fk_r g 38)] [] st (F6_sayLayers h st)
  unfold F6_sayLayers
  refine j_aload_n (pc := 0) hk 0 rfl ⟨_, rfl⟩ dX6_sayLayers_0 ?_
  refine j_iconst (pc := 1) hk dX6_sayLayers_1 (v := 0) (by decide) ?_
  refine j_aload_n (pc := 2) hk 1 rfl ⟨_, rfl⟩ dX6_sayLayers_2 ?_
  refine f_6_69 (pc := 3) hk (rfl) dX6_sayLayers_3 (fun x1 => ?_)
  refine j_aload_n (pc := 6) hk 0 rfl ⟨_, rfl⟩ dX6_sayLayers_6 ?_
  refine f_6_21 (pc := 7) hk (hh) dX6_sayLayers_7 (fun x2 => ?_)
  refine j_mmin (pc := 10) hk ml_6_74 wd_min1 wd_math wd_min2 (Nat.le_of_ble_eq_true rfl) (Nat.le_of_ble_eq_true rfl) dX6_sayLayers_10 ?_
  refine j_bipush (pc := 13) hk dX6_sayLayers_13 (v := 8) (by decide) ?_
  refine j_mmin (pc := 15) hk ml_6_74 wd_min1 wd_math wd_min2 (Nat.le_of_ble_eq_true rfl) (Nat.le_of_ble_eq_true rfl) dX6_sayLayers_15 ?_
  refine j_mmax (pc := 18) hk ml_6_80 wd_max1 wd_math wd_max2 (Nat.le_of_ble_eq_true rfl) (Nat.le_of_ble_eq_true rfl) dX6_sayLayers_18 ?_
  refine p_6_24 (pc := 21) hk (hh) dX6_sayLayers_21 (fun st3 => ?_)
  refine j_iconst (pc := 24) hk dX6_sayLayers_24 (v := 0) (by decide) ?_
  refine j_istore_n (lv' := ((2, .int (0 : Int32)) :: [(0, fk_r g h), (1, fk_r g 38)])) (pc := 25) hk rfl (by decide) rfl dX6_sayLayers_25 ?_
  refine j_sub hk (lv' := [(0, fk_r g h), (1, fk_r g 38), (2, .int (0 : Int32))]) [1, 2, 0] rfl ?_
  exact j_sub hk [0, 1, 2] rfl (L6_sayLayers_26 h hh hk fk_fuel (0 : Int32) st3)
theorem dX6_chip_0 : decode cX6_chip 0 = .ok (.iconst 0, 1) := by decide +kernel
theorem dX6_chip_1 : decode cX6_chip 1 = .ok (.istore_n 1, 1) := by decide +kernel
theorem dX6_chip_2 : decode cX6_chip 2 = .ok (.iload_n 1, 1) := by decide +kernel
theorem dX6_chip_3 : decode cX6_chip 3 = .ok (.aload_n 0, 1) := by decide +kernel
theorem dX6_chip_4 : decode cX6_chip 4 = .ok (.getfield 24, 3) := by decide +kernel
theorem dX6_chip_7 : decode cX6_chip 7 = .ok (.if_icmp .ge 37, 3) := by decide +kernel
theorem dX6_chip_10 : decode cX6_chip 10 = .ok (.aload_n 0, 1) := by decide +kernel
theorem dX6_chip_11 : decode cX6_chip 11 = .ok (.getfield 27, 3) := by decide +kernel
theorem dX6_chip_14 : decode cX6_chip 14 = .ok (.iload_n 1, 1) := by decide +kernel
theorem dX6_chip_15 : decode cX6_chip 15 = .ok (.iaload, 1) := by decide +kernel
theorem dX6_chip_16 : decode cX6_chip 16 = .ok (.iconst 3, 1) := by decide +kernel
theorem dX6_chip_17 : decode cX6_chip 17 = .ok (.irem, 1) := by decide +kernel
theorem dX6_chip_18 : decode cX6_chip 18 = .ok (.ifCond .ne 20, 3) := by decide +kernel
theorem dX6_chip_21 : decode cX6_chip 21 = .ok (.aload_n 0, 1) := by decide +kernel
theorem dX6_chip_22 : decode cX6_chip 22 = .ok (.getfield 27, 3) := by decide +kernel
theorem dX6_chip_25 : decode cX6_chip 25 = .ok (.iload_n 1, 1) := by decide +kernel
theorem dX6_chip_26 : decode cX6_chip 26 = .ok (.aload_n 0, 1) := by decide +kernel
theorem dX6_chip_27 : decode cX6_chip 27 = .ok (.getfield 27, 3) := by decide +kernel
theorem dX6_chip_30 : decode cX6_chip 30 = .ok (.iload_n 1, 1) := by decide +kernel
theorem dX6_chip_31 : decode cX6_chip 31 = .ok (.iaload, 1) := by decide +kernel
theorem dX6_chip_32 : decode cX6_chip 32 = .ok (.iconst 1, 1) := by decide +kernel
theorem dX6_chip_33 : decode cX6_chip 33 = .ok (.iadd, 1) := by decide +kernel
theorem dX6_chip_34 : decode cX6_chip 34 = .ok (.bipush 20, 2) := by decide +kernel
theorem dX6_chip_36 : decode cX6_chip 36 = .ok (.irem, 1) := by decide +kernel
theorem dX6_chip_37 : decode cX6_chip 37 = .ok (.iastore, 1) := by decide +kernel
theorem dX6_chip_38 : decode cX6_chip 38 = .ok (.iinc 1 1, 3) := by decide +kernel
theorem dX6_chip_41 : decode cX6_chip 41 = .ok (.goto (-39), 3) := by decide +kernel
theorem dX6_chip_44 : decode cX6_chip 44 = .ok (.return_, 1) := by decide +kernel
def B6_chip_38 (h : Nat) (k2 : Int32 → fkS → Option (Unit × fkS)) (v1 : Int32) (st : fkS) : Option (Unit × fkS) :=
k2 (v1 + (1 : Int32)) st
set_option maxHeartbeats 1000000 in
set_option maxRecDepth 20000 in
theorem T6_chip_38 {g : fkG} {k : fkK} (h : Nat) (hh : kdC h = 6) (hk : fk_ok wC g k RX6 cX6_chip 2 none 0 0) (k2 : Int32 → fkS → Option (Unit × fkS)) (H2 : ∀ (v1 : Int32) (st : fkS), fk_J wC g fk_eU k 2 [(0, fk_r g h), (1, .int v1)] [] st (k2 v1 st)) : ∀ (v1 : Int32) (st : fkS), fk_J wC g fk_eU k 38 [(0, fk_r g h), (1, .int v1)] [] st (B6_chip_38 h k2 v1 st) := by
  intro v1 st
  unfold B6_chip_38
  refine j_iinc (dd := (1 : Int32)) (lv' := ((1, .int (v1 + (1 : Int32))) :: [(0, fk_r g h)])) (pc := 38) hk 1 rfl (by decide) (by decide) rfl dX6_chip_38 ?_
  refine j_sub hk (lv' := [(0, fk_r g h), (1, .int (v1 + (1 : Int32)))]) [1, 0] rfl ?_
  refine j_goto (tgt := 2) (pc := 41) hk (by decide) dX6_chip_41 ?_
  exact j_sub hk [0, 1] rfl (H2 (v1 + (1 : Int32)) st)
def B6_chip_2 (h : Nat) (k2 : Int32 → fkS → Option (Unit × fkS)) (v1 : Int32) (st : fkS) : Option (Unit × fkS) :=
fk_let (gI st 124 h) <| fun x1 =>
if x1 ≤ v1 then
(some ((), st))
else
(fk_chk (fk_in v1 16) <| fk_let (gA st (h + 2) v1.toNatClampNeg) <| fun x2 =>
if (fk_rem x2 (3 : Int32)) = 0 then
(fk_chk (fk_in v1 16) <| fk_let (gA st (h + 2) v1.toNatClampNeg) <| fun x3 =>
fk_chk (fk_in v1 16) <| fk_let (sA st (h + 2) v1.toNatClampNeg (fk_rem (x3 + (1 : Int32)) (20 : Int32))) <| fun st4 =>
B6_chip_38 h k2 v1 st4)
else
(B6_chip_38 h k2 v1 st))
set_option maxHeartbeats 1000000 in
set_option maxRecDepth 20000 in
theorem T6_chip_2 {g : fkG} {k : fkK} (h : Nat) (hh : kdC h = 6) (hk : fk_ok wC g k RX6 cX6_chip 2 none 0 0) (k2 : Int32 → fkS → Option (Unit × fkS)) (H2 : ∀ (v1 : Int32) (st : fkS), fk_J wC g fk_eU k 2 [(0, fk_r g h), (1, .int v1)] [] st (k2 v1 st)) : ∀ (v1 : Int32) (st : fkS), fk_J wC g fk_eU k 2 [(0, fk_r g h), (1, .int v1)] [] st (B6_chip_2 h k2 v1 st) := by
  intro v1 st
  unfold B6_chip_2
  refine j_iload_n (pc := 2) hk 1 rfl dX6_chip_2 ?_
  refine j_aload_n (pc := 3) hk 0 rfl ⟨_, rfl⟩ dX6_chip_3 ?_
  refine f_6_24 (pc := 4) hk (hh) dX6_chip_4 (fun x1 => ?_)
  refine j_icmp_ge (tgt := 44) (pc := 7) hk (by decide) dX6_chip_7 (fun _ => ?_) (fun _ => ?_)
  · exact j_vret (pc := 44) hk dX6_chip_44
  · refine j_aload_n (pc := 10) hk 0 rfl ⟨_, rfl⟩ dX6_chip_10 ?_
    refine f_6_27 (pc := 11) hk (hh) dX6_chip_11 ?_
    refine j_iload_n (pc := 14) hk 1 rfl dX6_chip_14 ?_
    refine a_iload (pc := 15) hk (isI_6_5 (hh)) dX6_chip_15 (fun x2 => ?_)
    refine j_iconst (pc := 16) hk dX6_chip_16 (v := 3) (by decide) ?_
    refine j_irem (pc := 17) hk (show fk_nz (3 : Int32) = true from by decide) dX6_chip_17 ?_
    refine j_if_ne (tgt := 38) (pc := 18) hk (by decide) dX6_chip_18 (fun _ => ?_) (fun _ => ?_)
    · refine j_aload_n (pc := 21) hk 0 rfl ⟨_, rfl⟩ dX6_chip_21 ?_
      refine f_6_27 (pc := 22) hk (hh) dX6_chip_22 ?_
      refine j_iload_n (pc := 25) hk 1 rfl dX6_chip_25 ?_
      refine j_aload_n (pc := 26) hk 0 rfl ⟨_, rfl⟩ dX6_chip_26 ?_
      refine f_6_27 (pc := 27) hk (hh) dX6_chip_27 ?_
      refine j_iload_n (pc := 30) hk 1 rfl dX6_chip_30 ?_
      refine a_iload (pc := 31) hk (isI_6_5 (hh)) dX6_chip_31 (fun x3 => ?_)
      refine j_iconst (pc := 32) hk dX6_chip_32 (v := 1) (by decide) ?_
      refine j_iadd (pc := 33) hk dX6_chip_33 ?_
      refine j_bipush (pc := 34) hk dX6_chip_34 (v := 20) (by decide) ?_
      refine j_irem (pc := 36) hk (show fk_nz (20 : Int32) = true from by decide) dX6_chip_36 ?_
      refine a_istore (pc := 37) hk (isI_6_5 (hh)) dX6_chip_37 (fun st4 => ?_)
      exact j_sub hk [0, 1] rfl (T6_chip_38 h hh hk k2 H2 v1 st4)
    · exact j_sub hk [0, 1] rfl (T6_chip_38 h hh hk k2 H2 v1 st)
set_option maxHeartbeats 1000000 in
set_option maxRecDepth 20000 in
theorem L6_chip_2 {g : fkG} {k : fkK} (h : Nat) (hh : kdC h = 6) (hk : fk_ok wC g k RX6 cX6_chip 2 none 0 0) (fu : Nat) : ∀ (v1 : Int32) (st : fkS), fk_J wC g fk_eU k 2 [(0, fk_r g h), (1, .int v1)] [] st (fk_lp1 (B6_chip_2 h) fu v1 st) := by
  induction fu with
  | zero =>
    intro v1 st
    exact j_none hk
  | succ fu ih =>
    exact T6_chip_2 h hh hk _ ih
def F6_chip (h : Nat) (st : fkS) : Option (Unit × fkS) :=
fk_lp1 (B6_chip_2 h) fk_fuel (0 : Int32) st
set_option maxHeartbeats 1000000 in
set_option maxRecDepth 20000 in
theorem C6_chip (h : Nat) (hh : kdC h = 6) (st : fkS) {g : fkG} (l : Launch) (o : Unit × fkS) (hF : F6_chip h st = some o) : fk_C wC yX6_chip cX6_chip 2 none 0 0 l g [fk_r g h] st (fk_eU o.1) o.2 := by
  refine fk_begin rfl (Nat.le_of_ble_eq_true rfl) (fun k hk => ?_) o hF
  have hk : fk_ok wC g k RX6 cX6_chip 2 none 0 0 := hk
  show fk_J wC g fk_eU k 0 [(0, fk_r g h)] [] st (F6_chip h st)
  unfold F6_chip
  refine j_iconst (pc := 0) hk dX6_chip_0 (v := 0) (by decide) ?_
  refine j_istore_n (lv' := ((1, .int (0 : Int32)) :: [(0, fk_r g h)])) (pc := 1) hk rfl (by decide) rfl dX6_chip_1 ?_
  refine j_sub hk (lv' := [(0, fk_r g h), (1, .int (0 : Int32))]) [1, 0] rfl ?_
  exact j_sub hk [0, 1] rfl (L6_chip_2 h hh hk fk_fuel (0 : Int32) st)
theorem dX6_swap_0 : decode cX6_swap 0 = .ok (.iload_n 1, 1) := by decide +kernel
theorem dX6_swap_1 : decode cX6_swap 1 = .ok (.ifCond .lt 25, 3) := by decide +kernel
theorem dX6_swap_4 : decode cX6_swap 4 = .ok (.iload_n 1, 1) := by decide +kernel
theorem dX6_swap_5 : decode cX6_swap 5 = .ok (.aload_n 0, 1) := by decide +kernel
theorem dX6_swap_6 : decode cX6_swap 6 = .ok (.getfield 27, 3) := by decide +kernel
theorem dX6_swap_9 : decode cX6_swap 9 = .ok (.arraylength, 1) := by decide +kernel
theorem dX6_swap_10 : decode cX6_swap 10 = .ok (.if_icmp .ge 16, 3) := by decide +kernel
theorem dX6_swap_13 : decode cX6_swap 13 = .ok (.iload_n 2, 1) := by decide +kernel
theorem dX6_swap_14 : decode cX6_swap 14 = .ok (.ifCond .lt 12, 3) := by decide +kernel
theorem dX6_swap_17 : decode cX6_swap 17 = .ok (.iload_n 2, 1) := by decide +kernel
theorem dX6_swap_18 : decode cX6_swap 18 = .ok (.aload_n 0, 1) := by decide +kernel
theorem dX6_swap_19 : decode cX6_swap 19 = .ok (.getfield 27, 3) := by decide +kernel
theorem dX6_swap_22 : decode cX6_swap 22 = .ok (.arraylength, 1) := by decide +kernel
theorem dX6_swap_23 : decode cX6_swap 23 = .ok (.if_icmp .lt 4, 3) := by decide +kernel
theorem dX6_swap_26 : decode cX6_swap 26 = .ok (.return_, 1) := by decide +kernel
theorem dX6_swap_27 : decode cX6_swap 27 = .ok (.aload_n 0, 1) := by decide +kernel
theorem dX6_swap_28 : decode cX6_swap 28 = .ok (.getfield 27, 3) := by decide +kernel
theorem dX6_swap_31 : decode cX6_swap 31 = .ok (.iload_n 1, 1) := by decide +kernel
theorem dX6_swap_32 : decode cX6_swap 32 = .ok (.iaload, 1) := by decide +kernel
theorem dX6_swap_33 : decode cX6_swap 33 = .ok (.istore_n 3, 1) := by decide +kernel
theorem dX6_swap_34 : decode cX6_swap 34 = .ok (.aload_n 0, 1) := by decide +kernel
theorem dX6_swap_35 : decode cX6_swap 35 = .ok (.getfield 27, 3) := by decide +kernel
theorem dX6_swap_38 : decode cX6_swap 38 = .ok (.iload_n 1, 1) := by decide +kernel
theorem dX6_swap_39 : decode cX6_swap 39 = .ok (.aload_n 0, 1) := by decide +kernel
theorem dX6_swap_40 : decode cX6_swap 40 = .ok (.getfield 27, 3) := by decide +kernel
theorem dX6_swap_43 : decode cX6_swap 43 = .ok (.iload_n 2, 1) := by decide +kernel
theorem dX6_swap_44 : decode cX6_swap 44 = .ok (.iaload, 1) := by decide +kernel
theorem dX6_swap_45 : decode cX6_swap 45 = .ok (.iastore, 1) := by decide +kernel
theorem dX6_swap_46 : decode cX6_swap 46 = .ok (.aload_n 0, 1) := by decide +kernel
theorem dX6_swap_47 : decode cX6_swap 47 = .ok (.getfield 27, 3) := by decide +kernel
theorem dX6_swap_50 : decode cX6_swap 50 = .ok (.iload_n 2, 1) := by decide +kernel
theorem dX6_swap_51 : decode cX6_swap 51 = .ok (.iload_n 3, 1) := by decide +kernel
theorem dX6_swap_52 : decode cX6_swap 52 = .ok (.iastore, 1) := by decide +kernel
theorem dX6_swap_53 : decode cX6_swap 53 = .ok (.return_, 1) := by decide +kernel
def F6_swap (h : Nat) (p1 : Int32) (p2 : Int32) (st : fkS) : Option (Unit × fkS) :=
if p1 < 0 then
(some ((), st))
else
(if (16 : Int32) ≤ p1 then
(some ((), st))
else
(if p2 < 0 then
(some ((), st))
else
(if p2 < (16 : Int32) then
(fk_chk (fk_in p1 16) <| fk_let (gA st (h + 2) p1.toNatClampNeg) <| fun x1 =>
fk_chk (fk_in p2 16) <| fk_let (gA st (h + 2) p2.toNatClampNeg) <| fun x2 =>
fk_chk (fk_in p1 16) <| fk_let (sA st (h + 2) p1.toNatClampNeg x2) <| fun st3 =>
fk_chk (fk_in p2 16) <| fk_let (sA st3 (h + 2) p2.toNatClampNeg x1) <| fun st4 =>
some ((), st4))
else
(some ((), st)))))
set_option maxHeartbeats 1000000 in
set_option maxRecDepth 20000 in
theorem C6_swap (h : Nat) (hh : kdC h = 6) (p1 : Int32) (p2 : Int32) (st : fkS) {g : fkG} (l : Launch) (o : Unit × fkS) (hF : F6_swap h p1 p2 st = some o) : fk_C wC yX6_swap cX6_swap 4 none 0 0 l g [fk_r g h, .int p1, .int p2] st (fk_eU o.1) o.2 := by
  refine fk_begin rfl (Nat.le_of_ble_eq_true rfl) (fun k hk => ?_) o hF
  have hk : fk_ok wC g k RX6 cX6_swap 4 none 0 0 := hk
  show fk_J wC g fk_eU k 0 [(0, fk_r g h), (1, .int p1), (2, .int p2)] [] st (F6_swap h p1 p2 st)
  unfold F6_swap
  refine j_iload_n (pc := 0) hk 1 rfl dX6_swap_0 ?_
  refine j_if_lt (tgt := 26) (pc := 1) hk (by decide) dX6_swap_1 (fun _ => ?_) (fun _ => ?_)
  · exact j_vret (pc := 26) hk dX6_swap_26
  · refine j_iload_n (pc := 4) hk 1 rfl dX6_swap_4 ?_
    refine j_aload_n (pc := 5) hk 0 rfl ⟨_, rfl⟩ dX6_swap_5 ?_
    refine f_6_27 (pc := 6) hk (hh) dX6_swap_6 ?_
    refine a_ilen (pc := 9) hk (isI_6_5 (hh)) (v := 16) (by decide) dX6_swap_9 ?_
    refine j_icmp_ge (tgt := 26) (pc := 10) hk (by decide) dX6_swap_10 (fun _ => ?_) (fun _ => ?_)
    · exact j_vret (pc := 26) hk dX6_swap_26
    · refine j_iload_n (pc := 13) hk 2 rfl dX6_swap_13 ?_
      refine j_if_lt (tgt := 26) (pc := 14) hk (by decide) dX6_swap_14 (fun _ => ?_) (fun _ => ?_)
      · exact j_vret (pc := 26) hk dX6_swap_26
      · refine j_iload_n (pc := 17) hk 2 rfl dX6_swap_17 ?_
        refine j_aload_n (pc := 18) hk 0 rfl ⟨_, rfl⟩ dX6_swap_18 ?_
        refine f_6_27 (pc := 19) hk (hh) dX6_swap_19 ?_
        refine a_ilen (pc := 22) hk (isI_6_5 (hh)) (v := 16) (by decide) dX6_swap_22 ?_
        refine j_icmp_lt (tgt := 27) (pc := 23) hk (by decide) dX6_swap_23 (fun _ => ?_) (fun _ => ?_)
        · refine j_aload_n (pc := 27) hk 0 rfl ⟨_, rfl⟩ dX6_swap_27 ?_
          refine f_6_27 (pc := 28) hk (hh) dX6_swap_28 ?_
          refine j_iload_n (pc := 31) hk 1 rfl dX6_swap_31 ?_
          refine a_iload (pc := 32) hk (isI_6_5 (hh)) dX6_swap_32 (fun x1 => ?_)
          refine j_istore_n (lv' := ((3, .int x1) :: [(0, fk_r g h), (1, .int p1), (2, .int p2)])) (pc := 33) hk rfl (by decide) rfl dX6_swap_33 ?_
          refine j_sub hk (lv' := [(0, fk_r g h), (1, .int p1), (2, .int p2), (3, .int x1)]) [1, 2, 3, 0] rfl ?_
          refine j_aload_n (pc := 34) hk 0 rfl ⟨_, rfl⟩ dX6_swap_34 ?_
          refine f_6_27 (pc := 35) hk (hh) dX6_swap_35 ?_
          refine j_iload_n (pc := 38) hk 1 rfl dX6_swap_38 ?_
          refine j_aload_n (pc := 39) hk 0 rfl ⟨_, rfl⟩ dX6_swap_39 ?_
          refine f_6_27 (pc := 40) hk (hh) dX6_swap_40 ?_
          refine j_iload_n (pc := 43) hk 2 rfl dX6_swap_43 ?_
          refine a_iload (pc := 44) hk (isI_6_5 (hh)) dX6_swap_44 (fun x2 => ?_)
          refine a_istore (pc := 45) hk (isI_6_5 (hh)) dX6_swap_45 (fun st3 => ?_)
          refine j_aload_n (pc := 46) hk 0 rfl ⟨_, rfl⟩ dX6_swap_46 ?_
          refine f_6_27 (pc := 47) hk (hh) dX6_swap_47 ?_
          refine j_iload_n (pc := 50) hk 2 rfl dX6_swap_50 ?_
          refine j_iload_n (pc := 51) hk 3 rfl dX6_swap_51 ?_
          refine a_istore (pc := 52) hk (isI_6_5 (hh)) dX6_swap_52 (fun st4 => ?_)
          exact j_vret (pc := 53) hk dX6_swap_53
        · exact j_vret (pc := 26) hk dX6_swap_26
theorem dX6_turn_0 : decode cX6_turn 0 = .ok (.iconst 0, 1) := by decide +kernel
theorem dX6_turn_1 : decode cX6_turn 1 = .ok (.istore_n 1, 1) := by decide +kernel
theorem dX6_turn_2 : decode cX6_turn 2 = .ok (.iload_n 1, 1) := by decide +kernel
theorem dX6_turn_3 : decode cX6_turn 3 = .ok (.aload_n 0, 1) := by decide +kernel
theorem dX6_turn_4 : decode cX6_turn 4 = .ok (.getfield 24, 3) := by decide +kernel
theorem dX6_turn_7 : decode cX6_turn 7 = .ok (.iconst 2, 1) := by decide +kernel
theorem dX6_turn_8 : decode cX6_turn 8 = .ok (.idiv, 1) := by decide +kernel
theorem dX6_turn_9 : decode cX6_turn 9 = .ok (.if_icmp .ge 22, 3) := by decide +kernel
theorem dX6_turn_12 : decode cX6_turn 12 = .ok (.aload_n 0, 1) := by decide +kernel
theorem dX6_turn_13 : decode cX6_turn 13 = .ok (.iload_n 1, 1) := by decide +kernel
theorem dX6_turn_14 : decode cX6_turn 14 = .ok (.aload_n 0, 1) := by decide +kernel
theorem dX6_turn_15 : decode cX6_turn 15 = .ok (.getfield 24, 3) := by decide +kernel
theorem dX6_turn_18 : decode cX6_turn 18 = .ok (.iconst 1, 1) := by decide +kernel
theorem dX6_turn_19 : decode cX6_turn 19 = .ok (.isub, 1) := by decide +kernel
theorem dX6_turn_20 : decode cX6_turn 20 = .ok (.iload_n 1, 1) := by decide +kernel
theorem dX6_turn_21 : decode cX6_turn 21 = .ok (.isub, 1) := by decide +kernel
theorem dX6_turn_22 : decode cX6_turn 22 = .ok (.invokevirtual 86, 3) := by decide +kernel
theorem dX6_turn_25 : decode cX6_turn 25 = .ok (.iinc 1 1, 3) := by decide +kernel
theorem dX6_turn_28 : decode cX6_turn 28 = .ok (.goto (-26), 3) := by decide +kernel
theorem dX6_turn_31 : decode cX6_turn 31 = .ok (.return_, 1) := by decide +kernel
def B6_turn_2 (h : Nat) (k2 : Int32 → fkS → Option (Unit × fkS)) (v1 : Int32) (st : fkS) : Option (Unit × fkS) :=
fk_let (gI st 124 h) <| fun x1 =>
if (x1 / (2 : Int32)) ≤ v1 then
(some ((), st))
else
(fk_let (gI st 124 h) <| fun x2 =>
fk_bind (F6_swap h v1 ((x2 - (1 : Int32)) - v1) st) <| fun _ st3 =>
k2 (v1 + (1 : Int32)) st3)
set_option maxHeartbeats 1000000 in
set_option maxRecDepth 20000 in
theorem T6_turn_2 {g : fkG} {k : fkK} (h : Nat) (hh : kdC h = 6) (hk : fk_ok wC g k RX6 cX6_turn 2 none 1 23) (k2 : Int32 → fkS → Option (Unit × fkS)) (H2 : ∀ (v1 : Int32) (st : fkS), fk_J wC g fk_eU k 2 [(0, fk_r g h), (1, .int v1)] [] st (k2 v1 st)) : ∀ (v1 : Int32) (st : fkS), fk_J wC g fk_eU k 2 [(0, fk_r g h), (1, .int v1)] [] st (B6_turn_2 h k2 v1 st) := by
  intro v1 st
  unfold B6_turn_2
  refine j_iload_n (pc := 2) hk 1 rfl dX6_turn_2 ?_
  refine j_aload_n (pc := 3) hk 0 rfl ⟨_, rfl⟩ dX6_turn_3 ?_
  refine f_6_24 (pc := 4) hk (hh) dX6_turn_4 (fun x1 => ?_)
  refine j_iconst (pc := 7) hk dX6_turn_7 (v := 2) (by decide) ?_
  refine j_idiv (pc := 8) hk (show fk_nz (2 : Int32) = true from by decide) dX6_turn_8 ?_
  refine j_icmp_ge (tgt := 31) (pc := 9) hk (by decide) dX6_turn_9 (fun _ => ?_) (fun _ => ?_)
  · exact j_vret (pc := 31) hk dX6_turn_31
  · refine j_aload_n (pc := 12) hk 0 rfl ⟨_, rfl⟩ dX6_turn_12 ?_
    refine j_iload_n (pc := 13) hk 1 rfl dX6_turn_13 ?_
    refine j_aload_n (pc := 14) hk 0 rfl ⟨_, rfl⟩ dX6_turn_14 ?_
    refine f_6_24 (pc := 15) hk (hh) dX6_turn_15 (fun x2 => ?_)
    refine j_iconst (pc := 18) hk dX6_turn_18 (v := 1) (by decide) ?_
    refine j_isub (pc := 19) hk dX6_turn_19 ?_
    refine j_iload_n (pc := 20) hk 1 rfl dX6_turn_20 ?_
    refine j_isub (pc := 21) hk dX6_turn_21 ?_
    refine j_callVv (pc := 22) hk [.int v1, .int ((x2 - (1 : Int32)) - v1)] [] rfl (fun l o hq9 => C6_swap h (hh) v1 ((x2 - (1 : Int32)) - v1) st l o hq9) (rcv_6 (hh)) yv_X6_swap ml_6_86 rfl (Nat.le_of_ble_eq_true rfl) (Nat.le_of_ble_eq_true rfl) (Nat.le_of_ble_eq_true rfl) dX6_turn_22 (fun _ st3 => ?_)
    refine j_iinc (dd := (1 : Int32)) (lv' := ((1, .int (v1 + (1 : Int32))) :: [(0, fk_r g h)])) (pc := 25) hk 1 rfl (by decide) (by decide) rfl dX6_turn_25 ?_
    refine j_sub hk (lv' := [(0, fk_r g h), (1, .int (v1 + (1 : Int32)))]) [1, 0] rfl ?_
    refine j_goto (tgt := 2) (pc := 28) hk (by decide) dX6_turn_28 ?_
    exact j_sub hk [0, 1] rfl (H2 (v1 + (1 : Int32)) st3)
set_option maxHeartbeats 1000000 in
set_option maxRecDepth 20000 in
theorem L6_turn_2 {g : fkG} {k : fkK} (h : Nat) (hh : kdC h = 6) (hk : fk_ok wC g k RX6 cX6_turn 2 none 1 23) (fu : Nat) : ∀ (v1 : Int32) (st : fkS), fk_J wC g fk_eU k 2 [(0, fk_r g h), (1, .int v1)] [] st (fk_lp1 (B6_turn_2 h) fu v1 st) := by
  induction fu with
  | zero =>
    intro v1 st
    exact j_none hk
  | succ fu ih =>
    exact T6_turn_2 h hh hk _ ih
def F6_turn (h : Nat) (st : fkS) : Option (Unit × fkS) :=
fk_lp1 (B6_turn_2 h) fk_fuel (0 : Int32) st
set_option maxHeartbeats 1000000 in
set_option maxRecDepth 20000 in
theorem C6_turn (h : Nat) (hh : kdC h = 6) (st : fkS) {g : fkG} (l : Launch) (o : Unit × fkS) (hF : F6_turn h st = some o) : fk_C wC yX6_turn cX6_turn 2 none 1 23 l g [fk_r g h] st (fk_eU o.1) o.2 := by
  refine fk_begin rfl (Nat.le_of_ble_eq_true rfl) (fun k hk => ?_) o hF
  have hk : fk_ok wC g k RX6 cX6_turn 2 none 1 23 := hk
  show fk_J wC g fk_eU k 0 [(0, fk_r g h)] [] st (F6_turn h st)
  unfold F6_turn
  refine j_iconst (pc := 0) hk dX6_turn_0 (v := 0) (by decide) ?_
  refine j_istore_n (lv' := ((1, .int (0 : Int32)) :: [(0, fk_r g h)])) (pc := 1) hk rfl (by decide) rfl dX6_turn_1 ?_
  refine j_sub hk (lv' := [(0, fk_r g h), (1, .int (0 : Int32))]) [1, 0] rfl ?_
  exact j_sub hk [0, 1] rfl (L6_turn_2 h hh hk fk_fuel (0 : Int32) st)
theorem dX6_raise_0 : decode cX6_raise 0 = .ok (.iconst 0, 1) := by decide +kernel
theorem dX6_raise_1 : decode cX6_raise 1 = .ok (.istore_n 1, 1) := by decide +kernel
theorem dX6_raise_2 : decode cX6_raise 2 = .ok (.iload_n 1, 1) := by decide +kernel
theorem dX6_raise_3 : decode cX6_raise 3 = .ok (.aload_n 0, 1) := by decide +kernel
theorem dX6_raise_4 : decode cX6_raise 4 = .ok (.getfield 24, 3) := by decide +kernel
theorem dX6_raise_7 : decode cX6_raise 7 = .ok (.if_icmp .ge 29, 3) := by decide +kernel
theorem dX6_raise_10 : decode cX6_raise 10 = .ok (.aload_n 0, 1) := by decide +kernel
theorem dX6_raise_11 : decode cX6_raise 11 = .ok (.getfield 27, 3) := by decide +kernel
theorem dX6_raise_14 : decode cX6_raise 14 = .ok (.iload_n 1, 1) := by decide +kernel
theorem dX6_raise_15 : decode cX6_raise 15 = .ok (.aload_n 0, 1) := by decide +kernel
theorem dX6_raise_16 : decode cX6_raise 16 = .ok (.getfield 27, 3) := by decide +kernel
theorem dX6_raise_19 : decode cX6_raise 19 = .ok (.iload_n 1, 1) := by decide +kernel
theorem dX6_raise_20 : decode cX6_raise 20 = .ok (.iaload, 1) := by decide +kernel
theorem dX6_raise_21 : decode cX6_raise 21 = .ok (.aload_n 0, 1) := by decide +kernel
theorem dX6_raise_22 : decode cX6_raise 22 = .ok (.getfield 15, 3) := by decide +kernel
theorem dX6_raise_25 : decode cX6_raise 25 = .ok (.iadd, 1) := by decide +kernel
theorem dX6_raise_26 : decode cX6_raise 26 = .ok (.bipush 20, 2) := by decide +kernel
theorem dX6_raise_28 : decode cX6_raise 28 = .ok (.irem, 1) := by decide +kernel
theorem dX6_raise_29 : decode cX6_raise 29 = .ok (.iastore, 1) := by decide +kernel
theorem dX6_raise_30 : decode cX6_raise 30 = .ok (.iinc 1 1, 3) := by decide +kernel
theorem dX6_raise_33 : decode cX6_raise 33 = .ok (.goto (-31), 3) := by decide +kernel
theorem dX6_raise_36 : decode cX6_raise 36 = .ok (.return_, 1) := by decide +kernel
def B6_raise_2 (h : Nat) (k2 : Int32 → fkS → Option (Unit × fkS)) (v1 : Int32) (st : fkS) : Option (Unit × fkS) :=
fk_let (gI st 124 h) <| fun x1 =>
if x1 ≤ v1 then
(some ((), st))
else
(fk_chk (fk_in v1 16) <| fk_let (gA st (h + 2) v1.toNatClampNeg) <| fun x2 =>
fk_let (gI st 121 h) <| fun x3 =>
fk_chk (fk_in v1 16) <| fk_let (sA st (h + 2) v1.toNatClampNeg (fk_rem (x2 + x3) (20 : Int32))) <| fun st4 =>
k2 (v1 + (1 : Int32)) st4)
set_option maxHeartbeats 1000000 in
set_option maxRecDepth 20000 in
theorem T6_raise_2 {g : fkG} {k : fkK} (h : Nat) (hh : kdC h = 6) (hk : fk_ok wC g k RX6 cX6_raise 2 none 0 0) (k2 : Int32 → fkS → Option (Unit × fkS)) (H2 : ∀ (v1 : Int32) (st : fkS), fk_J wC g fk_eU k 2 [(0, fk_r g h), (1, .int v1)] [] st (k2 v1 st)) : ∀ (v1 : Int32) (st : fkS), fk_J wC g fk_eU k 2 [(0, fk_r g h), (1, .int v1)] [] st (B6_raise_2 h k2 v1 st) := by
  intro v1 st
  unfold B6_raise_2
  refine j_iload_n (pc := 2) hk 1 rfl dX6_raise_2 ?_
  refine j_aload_n (pc := 3) hk 0 rfl ⟨_, rfl⟩ dX6_raise_3 ?_
  refine f_6_24 (pc := 4) hk (hh) dX6_raise_4 (fun x1 => ?_)
  refine j_icmp_ge (tgt := 36) (pc := 7) hk (by decide) dX6_raise_7 (fun _ => ?_) (fun _ => ?_)
  · exact j_vret (pc := 36) hk dX6_raise_36
  · refine j_aload_n (pc := 10) hk 0 rfl ⟨_, rfl⟩ dX6_raise_10 ?_
    refine f_6_27 (pc := 11) hk (hh) dX6_raise_11 ?_
    refine j_iload_n (pc := 14) hk 1 rfl dX6_raise_14 ?_
    refine j_aload_n (pc := 15) hk 0 rfl ⟨_, rfl⟩ dX6_raise_15 ?_
    refine f_6_27 (pc := 16) hk (hh) dX6_raise_16 ?_
    refine j_iload_n (pc := 19) hk 1 rfl dX6_raise_19 ?_
    refine a_iload (pc := 20) hk (isI_6_5 (hh)) dX6_raise_20 (fun x2 => ?_)
    refine j_aload_n (pc := 21) hk 0 rfl ⟨_, rfl⟩ dX6_raise_21 ?_
    refine f_6_15 (pc := 22) hk (hh) dX6_raise_22 (fun x3 => ?_)
    refine j_iadd (pc := 25) hk dX6_raise_25 ?_
    refine j_bipush (pc := 26) hk dX6_raise_26 (v := 20) (by decide) ?_
    refine j_irem (pc := 28) hk (show fk_nz (20 : Int32) = true from by decide) dX6_raise_28 ?_
    refine a_istore (pc := 29) hk (isI_6_5 (hh)) dX6_raise_29 (fun st4 => ?_)
    refine j_iinc (dd := (1 : Int32)) (lv' := ((1, .int (v1 + (1 : Int32))) :: [(0, fk_r g h)])) (pc := 30) hk 1 rfl (by decide) (by decide) rfl dX6_raise_30 ?_
    refine j_sub hk (lv' := [(0, fk_r g h), (1, .int (v1 + (1 : Int32)))]) [1, 0] rfl ?_
    refine j_goto (tgt := 2) (pc := 33) hk (by decide) dX6_raise_33 ?_
    exact j_sub hk [0, 1] rfl (H2 (v1 + (1 : Int32)) st4)
set_option maxHeartbeats 1000000 in
set_option maxRecDepth 20000 in
theorem L6_raise_2 {g : fkG} {k : fkK} (h : Nat) (hh : kdC h = 6) (hk : fk_ok wC g k RX6 cX6_raise 2 none 0 0) (fu : Nat) : ∀ (v1 : Int32) (st : fkS), fk_J wC g fk_eU k 2 [(0, fk_r g h), (1, .int v1)] [] st (fk_lp1 (B6_raise_2 h) fu v1 st) := by
  induction fu with
  | zero =>
    intro v1 st
    exact j_none hk
  | succ fu ih =>
    exact T6_raise_2 h hh hk _ ih
def F6_raise (h : Nat) (st : fkS) : Option (Unit × fkS) :=
fk_lp1 (B6_raise_2 h) fk_fuel (0 : Int32) st
set_option maxHeartbeats 1000000 in
set_option maxRecDepth 20000 in
theorem C6_raise (h : Nat) (hh : kdC h = 6) (st : fkS) {g : fkG} (l : Launch) (o : Unit × fkS) (hF : F6_raise h st = some o) : fk_C wC yX6_raise cX6_raise 2 none 0 0 l g [fk_r g h] st (fk_eU o.1) o.2 := by
  refine fk_begin rfl (Nat.le_of_ble_eq_true rfl) (fun k hk => ?_) o hF
  have hk : fk_ok wC g k RX6 cX6_raise 2 none 0 0 := hk
  show fk_J wC g fk_eU k 0 [(0, fk_r g h)] [] st (F6_raise h st)
  unfold F6_raise
  refine j_iconst (pc := 0) hk dX6_raise_0 (v := 0) (by decide) ?_
  refine j_istore_n (lv' := ((1, .int (0 : Int32)) :: [(0, fk_r g h)])) (pc := 1) hk rfl (by decide) rfl dX6_raise_1 ?_
  refine j_sub hk (lv' := [(0, fk_r g h), (1, .int (0 : Int32))]) [1, 0] rfl ?_
  exact j_sub hk [0, 1] rfl (L6_raise_2 h hh hk fk_fuel (0 : Int32) st)
end
