section
-- ===== PART A: goes FIRST, ahead of the names: the tables' words, and 'selects' of the private methods out of them =====
/-- a private method of a class that the tables say can be made, by its rows of tables_1 -/
def lw_okq (q : MethodName × Nat) : Prop := (q.1.cls ≠ "java/lang/invoke/MethodHandle" ∧ q.1.cls ≠ "java/lang/invoke/VarHandle") ∧ Cond.instantiable q.1.cls q.2 ∈ tables_1 ∧ Cond.privateMethod q.1 ∈ tables_1 ∧ Cond.instanceMethod q.1 ∈ tables_1
theorem lw_p0 : lw_okq (⟨"DeficitNet", "shortenOver", "(III)V"⟩, 10) := ⟨⟨by decide +kernel, by decide +kernel⟩, List.mem_of_getElem? (i := 11) (by decide +kernel), List.mem_of_getElem? (i := 269) (by decide +kernel), List.mem_of_getElem? (i := 270) (by decide +kernel)⟩
theorem lw_p1 : lw_okq (⟨"DeficitNet", "isPort", "(I)Z"⟩, 10) := ⟨⟨by decide +kernel, by decide +kernel⟩, List.mem_of_getElem? (i := 11) (by decide +kernel), List.mem_of_getElem? (i := 277) (by decide +kernel), List.mem_of_getElem? (i := 278) (by decide +kernel)⟩
theorem lw_p2 : lw_okq (⟨"DeficitNet", "isFlow", "(I)Z"⟩, 10) := ⟨⟨by decide +kernel, by decide +kernel⟩, List.mem_of_getElem? (i := 11) (by decide +kernel), List.mem_of_getElem? (i := 293) (by decide +kernel), List.mem_of_getElem? (i := 294) (by decide +kernel)⟩
theorem lw_p3 : lw_okq (⟨"DeficitNet", "begin", "()V"⟩, 10) := ⟨⟨by decide +kernel, by decide +kernel⟩, List.mem_of_getElem? (i := 11) (by decide +kernel), List.mem_of_getElem? (i := 302) (by decide +kernel), List.mem_of_getElem? (i := 303) (by decide +kernel)⟩
theorem lw_p4 : lw_okq (⟨"DeficitNet", "happen", "()Z"⟩, 10) := ⟨⟨by decide +kernel, by decide +kernel⟩, List.mem_of_getElem? (i := 11) (by decide +kernel), List.mem_of_getElem? (i := 310) (by decide +kernel), List.mem_of_getElem? (i := 311) (by decide +kernel)⟩
theorem lw_p5 : lw_okq (⟨"DeficitNet", "start", "(I)V"⟩, 10) := ⟨⟨by decide +kernel, by decide +kernel⟩, List.mem_of_getElem? (i := 11) (by decide +kernel), List.mem_of_getElem? (i := 326) (by decide +kernel), List.mem_of_getElem? (i := 327) (by decide +kernel)⟩
theorem lw_p6 : lw_okq (⟨"DeficitNet", "remember", "(III)V"⟩, 10) := ⟨⟨by decide +kernel, by decide +kernel⟩, List.mem_of_getElem? (i := 11) (by decide +kernel), List.mem_of_getElem? (i := 330) (by decide +kernel), List.mem_of_getElem? (i := 331) (by decide +kernel)⟩
theorem lw_p7 : lw_okq (⟨"DeficitNet", "fill", "(I)V"⟩, 10) := ⟨⟨by decide +kernel, by decide +kernel⟩, List.mem_of_getElem? (i := 11) (by decide +kernel), List.mem_of_getElem? (i := 339) (by decide +kernel), List.mem_of_getElem? (i := 340) (by decide +kernel)⟩
theorem lw_p8 : lw_okq (⟨"DeficitNet", "hasTimer", "(I)Z"⟩, 10) := ⟨⟨by decide +kernel, by decide +kernel⟩, List.mem_of_getElem? (i := 11) (by decide +kernel), List.mem_of_getElem? (i := 346) (by decide +kernel), List.mem_of_getElem? (i := 347) (by decide +kernel)⟩
theorem lw_p9 : lw_okq (⟨"DeficitNet", "setTimer", "(I)V"⟩, 10) := ⟨⟨by decide +kernel, by decide +kernel⟩, List.mem_of_getElem? (i := 11) (by decide +kernel), List.mem_of_getElem? (i := 350) (by decide +kernel), List.mem_of_getElem? (i := 351) (by decide +kernel)⟩
theorem lw_p10 : lw_okq (⟨"DeficitNet", "make", "(IIZ)I"⟩, 10) := ⟨⟨by decide +kernel, by decide +kernel⟩, List.mem_of_getElem? (i := 11) (by decide +kernel), List.mem_of_getElem? (i := 354) (by decide +kernel), List.mem_of_getElem? (i := 355) (by decide +kernel)⟩
theorem lw_p11 : lw_okq (⟨"DeficitNet", "put", "(II)V"⟩, 10) := ⟨⟨by decide +kernel, by decide +kernel⟩, List.mem_of_getElem? (i := 11) (by decide +kernel), List.mem_of_getElem? (i := 362) (by decide +kernel), List.mem_of_getElem? (i := 363) (by decide +kernel)⟩
theorem lw_p12 : lw_okq (⟨"DeficitNet", "queuedOf", "(LDeficitNet$Port;I)I"⟩, 10) := ⟨⟨by decide +kernel, by decide +kernel⟩, List.mem_of_getElem? (i := 11) (by decide +kernel), List.mem_of_getElem? (i := 370) (by decide +kernel), List.mem_of_getElem? (i := 371) (by decide +kernel)⟩
theorem lw_p13 : lw_okq (⟨"DeficitNet", "choose", "(LDeficitNet$Port;)V"⟩, 10) := ⟨⟨by decide +kernel, by decide +kernel⟩, List.mem_of_getElem? (i := 11) (by decide +kernel), List.mem_of_getElem? (i := 378) (by decide +kernel), List.mem_of_getElem? (i := 379) (by decide +kernel)⟩
theorem lw_p14 : lw_okq (⟨"DeficitNet", "firstPlaceOf", "(LDeficitNet$Port;I)I"⟩, 10) := ⟨⟨by decide +kernel, by decide +kernel⟩, List.mem_of_getElem? (i := 11) (by decide +kernel), List.mem_of_getElem? (i := 386) (by decide +kernel), List.mem_of_getElem? (i := 387) (by decide +kernel)⟩
theorem lw_p15 : lw_okq (⟨"DeficitNet", "leave", "(I)V"⟩, 10) := ⟨⟨by decide +kernel, by decide +kernel⟩, List.mem_of_getElem? (i := 11) (by decide +kernel), List.mem_of_getElem? (i := 399) (by decide +kernel), List.mem_of_getElem? (i := 400) (by decide +kernel)⟩
def lw_privs_1 : List (MethodName × Nat) := [(⟨"DeficitNet", "shortenOver", "(III)V"⟩, 10), (⟨"DeficitNet", "isPort", "(I)Z"⟩, 10), (⟨"DeficitNet", "isFlow", "(I)Z"⟩, 10), (⟨"DeficitNet", "begin", "()V"⟩, 10), (⟨"DeficitNet", "happen", "()Z"⟩, 10), (⟨"DeficitNet", "start", "(I)V"⟩, 10), (⟨"DeficitNet", "remember", "(III)V"⟩, 10), (⟨"DeficitNet", "fill", "(I)V"⟩, 10), (⟨"DeficitNet", "hasTimer", "(I)Z"⟩, 10), (⟨"DeficitNet", "setTimer", "(I)V"⟩, 10), (⟨"DeficitNet", "make", "(IIZ)I"⟩, 10), (⟨"DeficitNet", "put", "(II)V"⟩, 10), (⟨"DeficitNet", "queuedOf", "(LDeficitNet$Port;I)I"⟩, 10), (⟨"DeficitNet", "choose", "(LDeficitNet$Port;)V"⟩, 10), (⟨"DeficitNet", "firstPlaceOf", "(LDeficitNet$Port;I)I"⟩, 10), (⟨"DeficitNet", "leave", "(I)V"⟩, 10)]
theorem lw_r1 : ∀ q ∈ lw_privs_1, lw_okq q := List.forall_mem_cons.mpr ⟨lw_p0, List.forall_mem_cons.mpr ⟨lw_p1, List.forall_mem_cons.mpr ⟨lw_p2, List.forall_mem_cons.mpr ⟨lw_p3, List.forall_mem_cons.mpr ⟨lw_p4, List.forall_mem_cons.mpr ⟨lw_p5, List.forall_mem_cons.mpr ⟨lw_p6, List.forall_mem_cons.mpr ⟨lw_p7, List.forall_mem_cons.mpr ⟨lw_p8, List.forall_mem_cons.mpr ⟨lw_p9, List.forall_mem_cons.mpr ⟨lw_p10, List.forall_mem_cons.mpr ⟨lw_p11, List.forall_mem_cons.mpr ⟨lw_p12, List.forall_mem_cons.mpr ⟨lw_p13, List.forall_mem_cons.mpr ⟨lw_p14, List.forall_mem_cons.mpr ⟨lw_p15, fun _ h => absurd h List.not_mem_nil⟩⟩⟩⟩⟩⟩⟩⟩⟩⟩⟩⟩⟩⟩⟩⟩
theorem lw_p16 : lw_okq (⟨"DeficitNet", "arrive", "(I)V"⟩, 10) := ⟨⟨by decide +kernel, by decide +kernel⟩, List.mem_of_getElem? (i := 11) (by decide +kernel), List.mem_of_getElem? (i := 407) (by decide +kernel), List.mem_of_getElem? (i := 408) (by decide +kernel)⟩
theorem lw_p17 : lw_okq (⟨"DeficitNet", "takeData", "(II)V"⟩, 10) := ⟨⟨by decide +kernel, by decide +kernel⟩, List.mem_of_getElem? (i := 11) (by decide +kernel), List.mem_of_getElem? (i := 411) (by decide +kernel), List.mem_of_getElem? (i := 412) (by decide +kernel)⟩
theorem lw_p18 : lw_okq (⟨"DeficitNet", "moveBase", "(II)V"⟩, 10) := ⟨⟨by decide +kernel, by decide +kernel⟩, List.mem_of_getElem? (i := 11) (by decide +kernel), List.mem_of_getElem? (i := 415) (by decide +kernel), List.mem_of_getElem? (i := 416) (by decide +kernel)⟩
theorem lw_p19 : lw_okq (⟨"DeficitNet", "timeOut", "(I)V"⟩, 10) := ⟨⟨by decide +kernel, by decide +kernel⟩, List.mem_of_getElem? (i := 11) (by decide +kernel), List.mem_of_getElem? (i := 422) (by decide +kernel), List.mem_of_getElem? (i := 423) (by decide +kernel)⟩
theorem lw_p20 : lw_okq (⟨"DeficitNetModel", "measure", "()V"⟩, 40) := ⟨⟨by decide +kernel, by decide +kernel⟩, List.mem_of_getElem? (i := 463) (by decide +kernel), List.mem_of_getElem? (i := 473) (by decide +kernel), List.mem_of_getElem? (i := 474) (by decide +kernel)⟩
theorem lw_p21 : lw_okq (⟨"DeficitNetModel", "isPort", "(I)Z"⟩, 40) := ⟨⟨by decide +kernel, by decide +kernel⟩, List.mem_of_getElem? (i := 463) (by decide +kernel), List.mem_of_getElem? (i := 618) (by decide +kernel), List.mem_of_getElem? (i := 619) (by decide +kernel)⟩
theorem lw_p22 : lw_okq (⟨"DeficitNetModel", "isFlow", "(I)Z"⟩, 40) := ⟨⟨by decide +kernel, by decide +kernel⟩, List.mem_of_getElem? (i := 463) (by decide +kernel), List.mem_of_getElem? (i := 630) (by decide +kernel), List.mem_of_getElem? (i := 631) (by decide +kernel)⟩
theorem lw_p23 : lw_okq (⟨"DeficitNetModel", "at", "(I)I"⟩, 40) := ⟨⟨by decide +kernel, by decide +kernel⟩, List.mem_of_getElem? (i := 463) (by decide +kernel), List.mem_of_getElem? (i := 643) (by decide +kernel), List.mem_of_getElem? (i := 644) (by decide +kernel)⟩
theorem lw_p24 : lw_okq (⟨"DeficitNetModel", "leads", "(I)I"⟩, 40) := ⟨⟨by decide +kernel, by decide +kernel⟩, List.mem_of_getElem? (i := 463) (by decide +kernel), List.mem_of_getElem? (i := 647) (by decide +kernel), List.mem_of_getElem? (i := 648) (by decide +kernel)⟩
theorem lw_p25 : lw_okq (⟨"DeficitNetModel", "begin", "()V"⟩, 40) := ⟨⟨by decide +kernel, by decide +kernel⟩, List.mem_of_getElem? (i := 463) (by decide +kernel), List.mem_of_getElem? (i := 655) (by decide +kernel), List.mem_of_getElem? (i := 656) (by decide +kernel)⟩
theorem lw_p26 : lw_okq (⟨"DeficitNetModel", "soonest", "()J"⟩, 40) := ⟨⟨by decide +kernel, by decide +kernel⟩, List.mem_of_getElem? (i := 463) (by decide +kernel), List.mem_of_getElem? (i := 659) (by decide +kernel), List.mem_of_getElem? (i := 660) (by decide +kernel)⟩
theorem lw_p27 : lw_okq (⟨"DeficitNetModel", "note", "(III)V"⟩, 40) := ⟨⟨by decide +kernel, by decide +kernel⟩, List.mem_of_getElem? (i := 463) (by decide +kernel), List.mem_of_getElem? (i := 667) (by decide +kernel), List.mem_of_getElem? (i := 668) (by decide +kernel)⟩
theorem lw_p28 : lw_okq (⟨"DeficitNetModel", "fill", "(I)V"⟩, 40) := ⟨⟨by decide +kernel, by decide +kernel⟩, List.mem_of_getElem? (i := 463) (by decide +kernel), List.mem_of_getElem? (i := 674) (by decide +kernel), List.mem_of_getElem? (i := 675) (by decide +kernel)⟩
theorem lw_p29 : lw_okq (⟨"DeficitNetModel", "setTimeout", "(I)V"⟩, 40) := ⟨⟨by decide +kernel, by decide +kernel⟩, List.mem_of_getElem? (i := 463) (by decide +kernel), List.mem_of_getElem? (i := 678) (by decide +kernel), List.mem_of_getElem? (i := 679) (by decide +kernel)⟩
theorem lw_p30 : lw_okq (⟨"DeficitNetModel", "make", "(IIZI)V"⟩, 40) := ⟨⟨by decide +kernel, by decide +kernel⟩, List.mem_of_getElem? (i := 463) (by decide +kernel), List.mem_of_getElem? (i := 682) (by decide +kernel), List.mem_of_getElem? (i := 683) (by decide +kernel)⟩
theorem lw_p31 : lw_okq (⟨"DeficitNetModel", "put", "(II)V"⟩, 40) := ⟨⟨by decide +kernel, by decide +kernel⟩, List.mem_of_getElem? (i := 463) (by decide +kernel), List.mem_of_getElem? (i := 686) (by decide +kernel), List.mem_of_getElem? (i := 687) (by decide +kernel)⟩
def lw_privs_2 : List (MethodName × Nat) := [(⟨"DeficitNet", "arrive", "(I)V"⟩, 10), (⟨"DeficitNet", "takeData", "(II)V"⟩, 10), (⟨"DeficitNet", "moveBase", "(II)V"⟩, 10), (⟨"DeficitNet", "timeOut", "(I)V"⟩, 10), (⟨"DeficitNetModel", "measure", "()V"⟩, 40), (⟨"DeficitNetModel", "isPort", "(I)Z"⟩, 40), (⟨"DeficitNetModel", "isFlow", "(I)Z"⟩, 40), (⟨"DeficitNetModel", "at", "(I)I"⟩, 40), (⟨"DeficitNetModel", "leads", "(I)I"⟩, 40), (⟨"DeficitNetModel", "begin", "()V"⟩, 40), (⟨"DeficitNetModel", "soonest", "()J"⟩, 40), (⟨"DeficitNetModel", "note", "(III)V"⟩, 40), (⟨"DeficitNetModel", "fill", "(I)V"⟩, 40), (⟨"DeficitNetModel", "setTimeout", "(I)V"⟩, 40), (⟨"DeficitNetModel", "make", "(IIZI)V"⟩, 40), (⟨"DeficitNetModel", "put", "(II)V"⟩, 40)]
theorem lw_r2 : ∀ q ∈ lw_privs_2, lw_okq q := List.forall_mem_cons.mpr ⟨lw_p16, List.forall_mem_cons.mpr ⟨lw_p17, List.forall_mem_cons.mpr ⟨lw_p18, List.forall_mem_cons.mpr ⟨lw_p19, List.forall_mem_cons.mpr ⟨lw_p20, List.forall_mem_cons.mpr ⟨lw_p21, List.forall_mem_cons.mpr ⟨lw_p22, List.forall_mem_cons.mpr ⟨lw_p23, List.forall_mem_cons.mpr ⟨lw_p24, List.forall_mem_cons.mpr ⟨lw_p25, List.forall_mem_cons.mpr ⟨lw_p26, List.forall_mem_cons.mpr ⟨lw_p27, List.forall_mem_cons.mpr ⟨lw_p28, List.forall_mem_cons.mpr ⟨lw_p29, List.forall_mem_cons.mpr ⟨lw_p30, List.forall_mem_cons.mpr ⟨lw_p31, fun _ h => absurd h List.not_mem_nil⟩⟩⟩⟩⟩⟩⟩⟩⟩⟩⟩⟩⟩⟩⟩⟩
theorem lw_p32 : lw_okq (⟨"DeficitNetModel", "endOf", "(I)I"⟩, 40) := ⟨⟨by decide +kernel, by decide +kernel⟩, List.mem_of_getElem? (i := 463) (by decide +kernel), List.mem_of_getElem? (i := 690) (by decide +kernel), List.mem_of_getElem? (i := 691) (by decide +kernel)⟩
theorem lw_p33 : lw_okq (⟨"DeficitNetModel", "queued", "(II)I"⟩, 40) := ⟨⟨by decide +kernel, by decide +kernel⟩, List.mem_of_getElem? (i := 463) (by decide +kernel), List.mem_of_getElem? (i := 695) (by decide +kernel), List.mem_of_getElem? (i := 696) (by decide +kernel)⟩
theorem lw_p34 : lw_okq (⟨"DeficitNetModel", "lose", "(I)V"⟩, 40) := ⟨⟨by decide +kernel, by decide +kernel⟩, List.mem_of_getElem? (i := 463) (by decide +kernel), List.mem_of_getElem? (i := 699) (by decide +kernel), List.mem_of_getElem? (i := 700) (by decide +kernel)⟩
theorem lw_p35 : lw_okq (⟨"DeficitNetModel", "on", "(I)I"⟩, 40) := ⟨⟨by decide +kernel, by decide +kernel⟩, List.mem_of_getElem? (i := 463) (by decide +kernel), List.mem_of_getElem? (i := 703) (by decide +kernel), List.mem_of_getElem? (i := 704) (by decide +kernel)⟩
theorem lw_p36 : lw_okq (⟨"DeficitNetModel", "choose", "(I)V"⟩, 40) := ⟨⟨by decide +kernel, by decide +kernel⟩, List.mem_of_getElem? (i := 463) (by decide +kernel), List.mem_of_getElem? (i := 707) (by decide +kernel), List.mem_of_getElem? (i := 708) (by decide +kernel)⟩
theorem lw_p37 : lw_okq (⟨"DeficitNetModel", "leader", "(I)I"⟩, 40) := ⟨⟨by decide +kernel, by decide +kernel⟩, List.mem_of_getElem? (i := 463) (by decide +kernel), List.mem_of_getElem? (i := 711) (by decide +kernel), List.mem_of_getElem? (i := 712) (by decide +kernel)⟩
theorem lw_p38 : lw_okq (⟨"DeficitNetModel", "head", "(II)I"⟩, 40) := ⟨⟨by decide +kernel, by decide +kernel⟩, List.mem_of_getElem? (i := 463) (by decide +kernel), List.mem_of_getElem? (i := 715) (by decide +kernel), List.mem_of_getElem? (i := 716) (by decide +kernel)⟩
theorem lw_p39 : lw_okq (⟨"DeficitNetModel", "sizeOf", "(I)I"⟩, 40) := ⟨⟨by decide +kernel, by decide +kernel⟩, List.mem_of_getElem? (i := 463) (by decide +kernel), List.mem_of_getElem? (i := 719) (by decide +kernel), List.mem_of_getElem? (i := 720) (by decide +kernel)⟩
theorem lw_p40 : lw_okq (⟨"DeficitNetModel", "moved", "(I)V"⟩, 40) := ⟨⟨by decide +kernel, by decide +kernel⟩, List.mem_of_getElem? (i := 463) (by decide +kernel), List.mem_of_getElem? (i := 723) (by decide +kernel), List.mem_of_getElem? (i := 724) (by decide +kernel)⟩
theorem lw_p41 : lw_okq (⟨"DeficitNetModel", "arrive", "(I)V"⟩, 40) := ⟨⟨by decide +kernel, by decide +kernel⟩, List.mem_of_getElem? (i := 463) (by decide +kernel), List.mem_of_getElem? (i := 727) (by decide +kernel), List.mem_of_getElem? (i := 728) (by decide +kernel)⟩
def lw_privs_3 : List (MethodName × Nat) := [(⟨"DeficitNetModel", "endOf", "(I)I"⟩, 40), (⟨"DeficitNetModel", "queued", "(II)I"⟩, 40), (⟨"DeficitNetModel", "lose", "(I)V"⟩, 40), (⟨"DeficitNetModel", "on", "(I)I"⟩, 40), (⟨"DeficitNetModel", "choose", "(I)V"⟩, 40), (⟨"DeficitNetModel", "leader", "(I)I"⟩, 40), (⟨"DeficitNetModel", "head", "(II)I"⟩, 40), (⟨"DeficitNetModel", "sizeOf", "(I)I"⟩, 40), (⟨"DeficitNetModel", "moved", "(I)V"⟩, 40), (⟨"DeficitNetModel", "arrive", "(I)V"⟩, 40)]
theorem lw_r3 : ∀ q ∈ lw_privs_3, lw_okq q := List.forall_mem_cons.mpr ⟨lw_p32, List.forall_mem_cons.mpr ⟨lw_p33, List.forall_mem_cons.mpr ⟨lw_p34, List.forall_mem_cons.mpr ⟨lw_p35, List.forall_mem_cons.mpr ⟨lw_p36, List.forall_mem_cons.mpr ⟨lw_p37, List.forall_mem_cons.mpr ⟨lw_p38, List.forall_mem_cons.mpr ⟨lw_p39, List.forall_mem_cons.mpr ⟨lw_p40, List.forall_mem_cons.mpr ⟨lw_p41, fun _ h => absurd h List.not_mem_nil⟩⟩⟩⟩⟩⟩⟩⟩⟩⟩
def lw_privs : List (MethodName × Nat) := lw_privs_1 ++ (lw_privs_2 ++ (lw_privs_3))
def lw_tbl : List Cond := k2_sels lw_privs ++ tables_1
theorem lw_privs_ok : ∀ q ∈ lw_privs, lw_okq q := by
  show ∀ q ∈ lw_privs_1 ++ (lw_privs_2 ++ (lw_privs_3)), lw_okq q
  exact List.forall_mem_append.mpr ⟨lw_r1, List.forall_mem_append.mpr ⟨lw_r2, lw_r3⟩⟩
end
section
/-- the words that every method here takes: those of the tables that keep -/
def wT : List Cond := lw_tbl.filter goodWord
theorem mem_wT {w : Cond} (h : w ∈ lw_tbl) (g : goodWord w = true) : w ∈ wT := List.mem_filter.mpr ⟨h, g⟩
theorem wT_tbl {w : Cond} (h : w ∈ wT) : w ∈ lw_tbl := (List.mem_filter.mp h).1
theorem tb1 {w : Cond} (h : w ∈ tables_1_1) : w ∈ lw_tbl := List.mem_append_right _ (List.mem_append_left _ h)
theorem tb2 {w : Cond} (h : w ∈ tables_1_2) : w ∈ lw_tbl := List.mem_append_right _ (List.mem_append_right _ (List.mem_append_left _ h))
theorem tb3 {w : Cond} (h : w ∈ tables_1_3) : w ∈ lw_tbl := List.mem_append_right _ (List.mem_append_right _ (List.mem_append_right _ (List.mem_append_left _ h)))
theorem tb4 {w : Cond} (h : w ∈ tables_1_4) : w ∈ lw_tbl := List.mem_append_right _ (List.mem_append_right _ (List.mem_append_right _ (List.mem_append_right _ h)))
theorem t_1 : (Jvm.Cond.initialized "DeficitNet") ∈ wT := mem_wT (tb1 (List.mem_of_getElem? (i := 1) rfl)) rfl
theorem t_2 : (Jvm.Cond.initialized "DeficitNet$Port") ∈ wT := mem_wT (tb1 (List.mem_of_getElem? (i := 2) rfl)) rfl
theorem t_3 : (Jvm.Cond.initialized "DeficitNet$Flow") ∈ wT := mem_wT (tb1 (List.mem_of_getElem? (i := 3) rfl)) rfl
theorem t_4 : (Jvm.Cond.initialized "DeficitNet$Packet") ∈ wT := mem_wT (tb1 (List.mem_of_getElem? (i := 4) rfl)) rfl
theorem t_5 : (Jvm.Cond.initialized "DeficitNet$Agenda") ∈ wT := mem_wT (tb1 (List.mem_of_getElem? (i := 5) rfl)) rfl
theorem t_6 : (Jvm.Cond.initialized "java/util/Arrays") ∈ wT := mem_wT (tb1 (List.mem_of_getElem? (i := 6) rfl)) rfl
theorem t_7 : (Jvm.Cond.initialized "DeficitNetModel") ∈ wT := mem_wT (tb1 (List.mem_of_getElem? (i := 7) rfl)) rfl
theorem t_8 : (Jvm.Cond.initialized "java/lang/System") ∈ wT := mem_wT (tb1 (List.mem_of_getElem? (i := 8) rfl)) rfl
theorem t_9 : (Jvm.Cond.initialized "java/lang/Math") ∈ wT := mem_wT (tb1 (List.mem_of_getElem? (i := 9) rfl)) rfl
theorem t_27 : (Jvm.Cond.fieldLink "DeficitNet$Port" (21 : Nat) "DeficitNet$Port" "from" "I") ∈ wT := mem_wT (tb1 (List.mem_of_getElem? (i := 27) rfl)) rfl
theorem t_28 : (Jvm.Cond.fieldLink "DeficitNet" (128 : Nat) "DeficitNet$Port" "from" "I") ∈ wT := mem_wT (tb1 (List.mem_of_getElem? (i := 28) rfl)) rfl
theorem t_29 : (Jvm.Cond.fieldLink "DeficitNet$Port" (25 : Nat) "DeficitNet$Port" "to" "I") ∈ wT := mem_wT (tb1 (List.mem_of_getElem? (i := 29) rfl)) rfl
theorem t_30 : (Jvm.Cond.fieldLink "DeficitNet" (134 : Nat) "DeficitNet$Port" "to" "I") ∈ wT := mem_wT (tb1 (List.mem_of_getElem? (i := 30) rfl)) rfl
theorem t_31 : (Jvm.Cond.fieldLink "DeficitNet$Port" (28 : Nat) "DeficitNet$Port" "cost" "I") ∈ wT := mem_wT (tb1 (List.mem_of_getElem? (i := 31) rfl)) rfl
theorem t_32 : (Jvm.Cond.fieldLink "DeficitNet" (131 : Nat) "DeficitNet$Port" "cost" "I") ∈ wT := mem_wT (tb1 (List.mem_of_getElem? (i := 32) rfl)) rfl
theorem t_33 : (Jvm.Cond.fieldLink "DeficitNet$Port" (31 : Nat) "DeficitNet$Port" "slowness" "I") ∈ wT := mem_wT (tb1 (List.mem_of_getElem? (i := 33) rfl)) rfl
theorem t_34 : (Jvm.Cond.fieldLink "DeficitNet" (298 : Nat) "DeficitNet$Port" "slowness" "I") ∈ wT := mem_wT (tb1 (List.mem_of_getElem? (i := 34) rfl)) rfl
theorem t_35 : (Jvm.Cond.fieldLink "DeficitNet$Port" (34 : Nat) "DeficitNet$Port" "delay" "I") ∈ wT := mem_wT (tb1 (List.mem_of_getElem? (i := 35) rfl)) rfl
theorem t_36 : (Jvm.Cond.fieldLink "DeficitNet" (218 : Nat) "DeficitNet$Port" "delay" "I") ∈ wT := mem_wT (tb1 (List.mem_of_getElem? (i := 36) rfl)) rfl
theorem t_37 : (Jvm.Cond.fieldLink "DeficitNet$Port" (37 : Nat) "DeficitNet$Port" "quantum" "I") ∈ wT := mem_wT (tb1 (List.mem_of_getElem? (i := 37) rfl)) rfl
theorem t_38 : (Jvm.Cond.fieldLink "DeficitNet" (76 : Nat) "DeficitNet$Port" "quantum" "I") ∈ wT := mem_wT (tb1 (List.mem_of_getElem? (i := 38) rfl)) rfl
theorem t_39 : (Jvm.Cond.fieldLink "DeficitNet$Port" (40 : Nat) "DeficitNet$Port" "room" "I") ∈ wT := mem_wT (tb1 (List.mem_of_getElem? (i := 39) rfl)) rfl
theorem t_40 : (Jvm.Cond.fieldLink "DeficitNet" (79 : Nat) "DeficitNet$Port" "room" "I") ∈ wT := mem_wT (tb1 (List.mem_of_getElem? (i := 40) rfl)) rfl
theorem t_41 : (Jvm.Cond.fieldLink "DeficitNet$Port" (43 : Nat) "DeficitNet$Port" "on" "I") ∈ wT := mem_wT (tb1 (List.mem_of_getElem? (i := 41) rfl)) rfl
theorem t_42 : (Jvm.Cond.fieldLink "DeficitNet" (148 : Nat) "DeficitNet$Port" "on" "I") ∈ wT := mem_wT (tb1 (List.mem_of_getElem? (i := 42) rfl)) rfl
theorem t_43 : (Jvm.Cond.fieldLink "DeficitNet$Port" (46 : Nat) "DeficitNet$Port" "queued" "I") ∈ wT := mem_wT (tb1 (List.mem_of_getElem? (i := 43) rfl)) rfl
theorem t_44 : (Jvm.Cond.fieldLink "DeficitNet" (137 : Nat) "DeficitNet$Port" "queued" "I") ∈ wT := mem_wT (tb1 (List.mem_of_getElem? (i := 44) rfl)) rfl
theorem t_45 : (Jvm.Cond.fieldLink "DeficitNet$Port" (49 : Nat) "DeficitNet$Port" "listed" "I") ∈ wT := mem_wT (tb1 (List.mem_of_getElem? (i := 45) rfl)) rfl
theorem t_46 : (Jvm.Cond.fieldLink "DeficitNet$Port" (52 : Nat) "DeficitNet$Port" "firstIsServed" "Z") ∈ wT := mem_wT (tb1 (List.mem_of_getElem? (i := 46) rfl)) rfl
theorem t_47 : (Jvm.Cond.fieldLink "DeficitNet$Port" (9 : Nat) "DeficitNet$Port" "queue" "[I") ∈ wT := mem_wT (tb1 (List.mem_of_getElem? (i := 47) rfl)) rfl
theorem t_48 : (Jvm.Cond.fieldLink "DeficitNet" (279 : Nat) "DeficitNet$Port" "queue" "[I") ∈ wT := mem_wT (tb1 (List.mem_of_getElem? (i := 48) rfl)) rfl
theorem t_49 : (Jvm.Cond.fieldLink "DeficitNet$Port" (15 : Nat) "DeficitNet$Port" "list" "[I") ∈ wT := mem_wT (tb1 (List.mem_of_getElem? (i := 49) rfl)) rfl
theorem t_50 : (Jvm.Cond.fieldLink "DeficitNet" (282 : Nat) "DeficitNet$Port" "list" "[I") ∈ wT := mem_wT (tb1 (List.mem_of_getElem? (i := 50) rfl)) rfl
theorem t_51 : (Jvm.Cond.fieldLink "DeficitNet$Port" (18 : Nat) "DeficitNet$Port" "deficits" "[I") ∈ wT := mem_wT (tb1 (List.mem_of_getElem? (i := 51) rfl)) rfl
theorem t_52 : (Jvm.Cond.fieldLink "DeficitNet" (144 : Nat) "DeficitNet$Port" "deficits" "[I") ∈ wT := mem_wT (tb1 (List.mem_of_getElem? (i := 52) rfl)) rfl
theorem t_53 : (Jvm.Cond.lays "DeficitNet$Port" "DeficitNet$Port" "from" "I") ∈ wT := mem_wT (tb1 (List.mem_of_getElem? (i := 53) rfl)) rfl
theorem t_55 : (Jvm.Cond.lays "DeficitNet$Port" "DeficitNet$Port" "to" "I") ∈ wT := mem_wT (tb1 (List.mem_of_getElem? (i := 55) rfl)) rfl
theorem t_57 : (Jvm.Cond.lays "DeficitNet$Port" "DeficitNet$Port" "cost" "I") ∈ wT := mem_wT (tb1 (List.mem_of_getElem? (i := 57) rfl)) rfl
theorem t_59 : (Jvm.Cond.lays "DeficitNet$Port" "DeficitNet$Port" "slowness" "I") ∈ wT := mem_wT (tb1 (List.mem_of_getElem? (i := 59) rfl)) rfl
theorem t_61 : (Jvm.Cond.lays "DeficitNet$Port" "DeficitNet$Port" "delay" "I") ∈ wT := mem_wT (tb1 (List.mem_of_getElem? (i := 61) rfl)) rfl
theorem t_63 : (Jvm.Cond.lays "DeficitNet$Port" "DeficitNet$Port" "quantum" "I") ∈ wT := mem_wT (tb1 (List.mem_of_getElem? (i := 63) rfl)) rfl
theorem t_65 : (Jvm.Cond.lays "DeficitNet$Port" "DeficitNet$Port" "room" "I") ∈ wT := mem_wT (tb1 (List.mem_of_getElem? (i := 65) rfl)) rfl
theorem t_67 : (Jvm.Cond.lays "DeficitNet$Port" "DeficitNet$Port" "on" "I") ∈ wT := mem_wT (tb1 (List.mem_of_getElem? (i := 67) rfl)) rfl
theorem t_69 : (Jvm.Cond.lays "DeficitNet$Port" "DeficitNet$Port" "queued" "I") ∈ wT := mem_wT (tb1 (List.mem_of_getElem? (i := 69) rfl)) rfl
theorem t_71 : (Jvm.Cond.lays "DeficitNet$Port" "DeficitNet$Port" "listed" "I") ∈ wT := mem_wT (tb1 (List.mem_of_getElem? (i := 71) rfl)) rfl
theorem t_73 : (Jvm.Cond.lays "DeficitNet$Port" "DeficitNet$Port" "firstIsServed" "Z") ∈ wT := mem_wT (tb1 (List.mem_of_getElem? (i := 73) rfl)) rfl
theorem t_75 : (Jvm.Cond.laysFinal "DeficitNet$Port" "DeficitNet$Port" "queue" "[I") ∈ wT := mem_wT (tb1 (List.mem_of_getElem? (i := 75) rfl)) rfl
theorem t_77 : (Jvm.Cond.laysFinal "DeficitNet$Port" "DeficitNet$Port" "list" "[I") ∈ wT := mem_wT (tb1 (List.mem_of_getElem? (i := 77) rfl)) rfl
theorem t_79 : (Jvm.Cond.laysFinal "DeficitNet$Port" "DeficitNet$Port" "deficits" "[I") ∈ wT := mem_wT (tb1 (List.mem_of_getElem? (i := 79) rfl)) rfl
theorem t_90 : (Jvm.Cond.fieldLink "DeficitNet$Flow" (9 : Nat) "DeficitNet$Flow" "source" "I") ∈ wT := mem_wT (tb1 (List.mem_of_getElem? (i := 90) rfl)) rfl
theorem t_91 : (Jvm.Cond.fieldLink "DeficitNet$Packet" (31 : Nat) "DeficitNet$Flow" "source" "I") ∈ wT := mem_wT (tb1 (List.mem_of_getElem? (i := 91) rfl)) rfl
theorem t_92 : (Jvm.Cond.fieldLink "DeficitNet" (266 : Nat) "DeficitNet$Flow" "source" "I") ∈ wT := mem_wT (tb1 (List.mem_of_getElem? (i := 92) rfl)) rfl
theorem t_93 : (Jvm.Cond.fieldLink "DeficitNet$Flow" (15 : Nat) "DeficitNet$Flow" "sink" "I") ∈ wT := mem_wT (tb1 (List.mem_of_getElem? (i := 93) rfl)) rfl
theorem t_94 : (Jvm.Cond.fieldLink "DeficitNet$Packet" (34 : Nat) "DeficitNet$Flow" "sink" "I") ∈ wT := mem_wT (tb1 (List.mem_of_getElem? (i := 94) rfl)) rfl
theorem t_95 : (Jvm.Cond.fieldLink "DeficitNet" (248 : Nat) "DeficitNet$Flow" "sink" "I") ∈ wT := mem_wT (tb1 (List.mem_of_getElem? (i := 95) rfl)) rfl
theorem t_96 : (Jvm.Cond.fieldLink "DeficitNet$Flow" (18 : Nat) "DeficitNet$Flow" "count" "I") ∈ wT := mem_wT (tb1 (List.mem_of_getElem? (i := 96) rfl)) rfl
theorem t_97 : (Jvm.Cond.fieldLink "DeficitNet" (260 : Nat) "DeficitNet$Flow" "count" "I") ∈ wT := mem_wT (tb1 (List.mem_of_getElem? (i := 97) rfl)) rfl
theorem t_98 : (Jvm.Cond.fieldLink "DeficitNet$Flow" (21 : Nat) "DeficitNet$Flow" "size" "I") ∈ wT := mem_wT (tb1 (List.mem_of_getElem? (i := 98) rfl)) rfl
theorem t_99 : (Jvm.Cond.fieldLink "DeficitNet$Packet" (25 : Nat) "DeficitNet$Flow" "size" "I") ∈ wT := mem_wT (tb1 (List.mem_of_getElem? (i := 99) rfl)) rfl
theorem t_100 : (Jvm.Cond.fieldLink "DeficitNet$Flow" (24 : Nat) "DeficitNet$Flow" "window" "I") ∈ wT := mem_wT (tb1 (List.mem_of_getElem? (i := 100) rfl)) rfl
theorem t_101 : (Jvm.Cond.fieldLink "DeficitNet" (92 : Nat) "DeficitNet$Flow" "window" "I") ∈ wT := mem_wT (tb1 (List.mem_of_getElem? (i := 101) rfl)) rfl
theorem t_102 : (Jvm.Cond.fieldLink "DeficitNet$Flow" (27 : Nat) "DeficitNet$Flow" "patience" "I") ∈ wT := mem_wT (tb1 (List.mem_of_getElem? (i := 102) rfl)) rfl
theorem t_103 : (Jvm.Cond.fieldLink "DeficitNet" (95 : Nat) "DeficitNet$Flow" "patience" "I") ∈ wT := mem_wT (tb1 (List.mem_of_getElem? (i := 103) rfl)) rfl
theorem t_104 : (Jvm.Cond.fieldLink "DeficitNet$Flow" (30 : Nat) "DeficitNet$Flow" "birth" "I") ∈ wT := mem_wT (tb1 (List.mem_of_getElem? (i := 104) rfl)) rfl
theorem t_105 : (Jvm.Cond.fieldLink "DeficitNet" (98 : Nat) "DeficitNet$Flow" "birth" "I") ∈ wT := mem_wT (tb1 (List.mem_of_getElem? (i := 105) rfl)) rfl
theorem t_106 : (Jvm.Cond.fieldLink "DeficitNet$Flow" (33 : Nat) "DeficitNet$Flow" "base" "I") ∈ wT := mem_wT (tb1 (List.mem_of_getElem? (i := 106) rfl)) rfl
theorem t_107 : (Jvm.Cond.fieldLink "DeficitNet" (164 : Nat) "DeficitNet$Flow" "base" "I") ∈ wT := mem_wT (tb1 (List.mem_of_getElem? (i := 107) rfl)) rfl
theorem t_108 : (Jvm.Cond.fieldLink "DeficitNet$Flow" (36 : Nat) "DeficitNet$Flow" "next" "I") ∈ wT := mem_wT (tb1 (List.mem_of_getElem? (i := 108) rfl)) rfl
theorem t_109 : (Jvm.Cond.fieldLink "DeficitNet" (167 : Nat) "DeficitNet$Flow" "next" "I") ∈ wT := mem_wT (tb1 (List.mem_of_getElem? (i := 109) rfl)) rfl
theorem t_110 : (Jvm.Cond.fieldLink "DeficitNet$Flow" (39 : Nat) "DeficitNet$Flow" "expected" "I") ∈ wT := mem_wT (tb1 (List.mem_of_getElem? (i := 110) rfl)) rfl
theorem t_111 : (Jvm.Cond.fieldLink "DeficitNet" (170 : Nat) "DeficitNet$Flow" "expected" "I") ∈ wT := mem_wT (tb1 (List.mem_of_getElem? (i := 111) rfl)) rfl
theorem t_112 : (Jvm.Cond.fieldLink "DeficitNet$Flow" (42 : Nat) "DeficitNet$Flow" "made" "I") ∈ wT := mem_wT (tb1 (List.mem_of_getElem? (i := 112) rfl)) rfl
theorem t_113 : (Jvm.Cond.fieldLink "DeficitNet" (173 : Nat) "DeficitNet$Flow" "made" "I") ∈ wT := mem_wT (tb1 (List.mem_of_getElem? (i := 113) rfl)) rfl
theorem t_114 : (Jvm.Cond.fieldLink "DeficitNet$Flow" (45 : Nat) "DeficitNet$Flow" "arrived" "I") ∈ wT := mem_wT (tb1 (List.mem_of_getElem? (i := 114) rfl)) rfl
theorem t_115 : (Jvm.Cond.fieldLink "DeficitNet" (176 : Nat) "DeficitNet$Flow" "arrived" "I") ∈ wT := mem_wT (tb1 (List.mem_of_getElem? (i := 115) rfl)) rfl
theorem t_116 : (Jvm.Cond.fieldLink "DeficitNet$Flow" (48 : Nat) "DeficitNet$Flow" "lost" "I") ∈ wT := mem_wT (tb1 (List.mem_of_getElem? (i := 116) rfl)) rfl
theorem t_117 : (Jvm.Cond.fieldLink "DeficitNet" (179 : Nat) "DeficitNet$Flow" "lost" "I") ∈ wT := mem_wT (tb1 (List.mem_of_getElem? (i := 117) rfl)) rfl
theorem t_118 : (Jvm.Cond.fieldLink "DeficitNet$Flow" (51 : Nat) "DeficitNet$Flow" "timeouts" "I") ∈ wT := mem_wT (tb1 (List.mem_of_getElem? (i := 118) rfl)) rfl
theorem t_119 : (Jvm.Cond.fieldLink "DeficitNet" (182 : Nat) "DeficitNet$Flow" "timeouts" "I") ∈ wT := mem_wT (tb1 (List.mem_of_getElem? (i := 119) rfl)) rfl
theorem t_120 : (Jvm.Cond.lays "DeficitNet$Flow" "DeficitNet$Flow" "source" "I") ∈ wT := mem_wT (tb1 (List.mem_of_getElem? (i := 120) rfl)) rfl
theorem t_122 : (Jvm.Cond.lays "DeficitNet$Flow" "DeficitNet$Flow" "sink" "I") ∈ wT := mem_wT (tb1 (List.mem_of_getElem? (i := 122) rfl)) rfl
theorem t_124 : (Jvm.Cond.lays "DeficitNet$Flow" "DeficitNet$Flow" "count" "I") ∈ wT := mem_wT (tb1 (List.mem_of_getElem? (i := 124) rfl)) rfl
theorem t_126 : (Jvm.Cond.lays "DeficitNet$Flow" "DeficitNet$Flow" "size" "I") ∈ wT := mem_wT (tb1 (List.mem_of_getElem? (i := 126) rfl)) rfl
theorem t_128 : (Jvm.Cond.lays "DeficitNet$Flow" "DeficitNet$Flow" "window" "I") ∈ wT := mem_wT (tb1 (List.mem_of_getElem? (i := 128) rfl)) rfl
theorem t_130 : (Jvm.Cond.lays "DeficitNet$Flow" "DeficitNet$Flow" "patience" "I") ∈ wT := mem_wT (tb1 (List.mem_of_getElem? (i := 130) rfl)) rfl
theorem t_132 : (Jvm.Cond.lays "DeficitNet$Flow" "DeficitNet$Flow" "birth" "I") ∈ wT := mem_wT (tb1 (List.mem_of_getElem? (i := 132) rfl)) rfl
theorem t_134 : (Jvm.Cond.lays "DeficitNet$Flow" "DeficitNet$Flow" "base" "I") ∈ wT := mem_wT (tb1 (List.mem_of_getElem? (i := 134) rfl)) rfl
theorem t_136 : (Jvm.Cond.lays "DeficitNet$Flow" "DeficitNet$Flow" "next" "I") ∈ wT := mem_wT (tb1 (List.mem_of_getElem? (i := 136) rfl)) rfl
theorem t_138 : (Jvm.Cond.lays "DeficitNet$Flow" "DeficitNet$Flow" "expected" "I") ∈ wT := mem_wT (tb1 (List.mem_of_getElem? (i := 138) rfl)) rfl
theorem t_140 : (Jvm.Cond.lays "DeficitNet$Flow" "DeficitNet$Flow" "made" "I") ∈ wT := mem_wT (tb1 (List.mem_of_getElem? (i := 140) rfl)) rfl
theorem t_142 : (Jvm.Cond.lays "DeficitNet$Flow" "DeficitNet$Flow" "arrived" "I") ∈ wT := mem_wT (tb1 (List.mem_of_getElem? (i := 142) rfl)) rfl
theorem t_144 : (Jvm.Cond.lays "DeficitNet$Flow" "DeficitNet$Flow" "lost" "I") ∈ wT := mem_wT (tb1 (List.mem_of_getElem? (i := 144) rfl)) rfl
theorem t_146 : (Jvm.Cond.lays "DeficitNet$Flow" "DeficitNet$Flow" "timeouts" "I") ∈ wT := mem_wT (tb1 (List.mem_of_getElem? (i := 146) rfl)) rfl
theorem t_156 : (Jvm.Cond.fieldLink "DeficitNet$Packet" (9 : Nat) "DeficitNet$Packet" "inNet" "Z") ∈ wT := mem_wT (tb1 (List.mem_of_getElem? (i := 156) rfl)) rfl
theorem t_157 : (Jvm.Cond.fieldLink "DeficitNet" (110 : Nat) "DeficitNet$Packet" "inNet" "Z") ∈ wT := mem_wT (tb1 (List.mem_of_getElem? (i := 157) rfl)) rfl
theorem t_158 : (Jvm.Cond.fieldLink "DeficitNet$Packet" (15 : Nat) "DeficitNet$Packet" "isAnswer" "Z") ∈ wT := mem_wT (tb1 (List.mem_of_getElem? (i := 158) rfl)) rfl
theorem t_159 : (Jvm.Cond.fieldLink "DeficitNet" (232 : Nat) "DeficitNet$Packet" "isAnswer" "Z") ∈ wT := mem_wT (tb1 (List.mem_of_getElem? (i := 159) rfl)) rfl
theorem t_160 : (Jvm.Cond.fieldLink "DeficitNet$Packet" (18 : Nat) "DeficitNet$Packet" "flow" "I") ∈ wT := mem_wT (tb1 (List.mem_of_getElem? (i := 160) rfl)) rfl
theorem t_161 : (Jvm.Cond.fieldLink "DeficitNet" (151 : Nat) "DeficitNet$Packet" "flow" "I") ∈ wT := mem_wT (tb1 (List.mem_of_getElem? (i := 161) rfl)) rfl
theorem t_162 : (Jvm.Cond.fieldLink "DeficitNet$Packet" (22 : Nat) "DeficitNet$Packet" "number" "I") ∈ wT := mem_wT (tb1 (List.mem_of_getElem? (i := 162) rfl)) rfl
theorem t_163 : (Jvm.Cond.fieldLink "DeficitNet" (235 : Nat) "DeficitNet$Packet" "number" "I") ∈ wT := mem_wT (tb1 (List.mem_of_getElem? (i := 163) rfl)) rfl
theorem t_164 : (Jvm.Cond.fieldLink "DeficitNet$Packet" (30 : Nat) "DeficitNet$Packet" "size" "I") ∈ wT := mem_wT (tb1 (List.mem_of_getElem? (i := 164) rfl)) rfl
theorem t_165 : (Jvm.Cond.fieldLink "DeficitNet" (291 : Nat) "DeficitNet$Packet" "size" "I") ∈ wT := mem_wT (tb1 (List.mem_of_getElem? (i := 165) rfl)) rfl
theorem t_166 : (Jvm.Cond.fieldLink "DeficitNet$Packet" (37 : Nat) "DeficitNet$Packet" "end" "I") ∈ wT := mem_wT (tb1 (List.mem_of_getElem? (i := 166) rfl)) rfl
theorem t_167 : (Jvm.Cond.fieldLink "DeficitNet" (225 : Nat) "DeficitNet$Packet" "end" "I") ∈ wT := mem_wT (tb1 (List.mem_of_getElem? (i := 167) rfl)) rfl
theorem t_168 : (Jvm.Cond.fieldLink "DeficitNet" (215 : Nat) "DeficitNet$Packet" "port" "I") ∈ wT := mem_wT (tb1 (List.mem_of_getElem? (i := 168) rfl)) rfl
theorem t_169 : (Jvm.Cond.lays "DeficitNet$Packet" "DeficitNet$Packet" "inNet" "Z") ∈ wT := mem_wT (tb1 (List.mem_of_getElem? (i := 169) rfl)) rfl
theorem t_171 : (Jvm.Cond.lays "DeficitNet$Packet" "DeficitNet$Packet" "isAnswer" "Z") ∈ wT := mem_wT (tb1 (List.mem_of_getElem? (i := 171) rfl)) rfl
theorem t_173 : (Jvm.Cond.lays "DeficitNet$Packet" "DeficitNet$Packet" "flow" "I") ∈ wT := mem_wT (tb1 (List.mem_of_getElem? (i := 173) rfl)) rfl
theorem t_175 : (Jvm.Cond.lays "DeficitNet$Packet" "DeficitNet$Packet" "number" "I") ∈ wT := mem_wT (tb1 (List.mem_of_getElem? (i := 175) rfl)) rfl
theorem t_177 : (Jvm.Cond.lays "DeficitNet$Packet" "DeficitNet$Packet" "size" "I") ∈ wT := mem_wT (tb1 (List.mem_of_getElem? (i := 177) rfl)) rfl
theorem t_179 : (Jvm.Cond.lays "DeficitNet$Packet" "DeficitNet$Packet" "end" "I") ∈ wT := mem_wT (tb1 (List.mem_of_getElem? (i := 179) rfl)) rfl
theorem t_181 : (Jvm.Cond.lays "DeficitNet$Packet" "DeficitNet$Packet" "port" "I") ∈ wT := mem_wT (tb1 (List.mem_of_getElem? (i := 181) rfl)) rfl
theorem t_190 : (Jvm.Cond.fieldLink "DeficitNet$Agenda" (9 : Nat) "DeficitNet$Agenda" "kinds" "[I") ∈ wT := mem_wT (tb1 (List.mem_of_getElem? (i := 190) rfl)) rfl
theorem t_191 : (Jvm.Cond.fieldLink "DeficitNet" (191 : Nat) "DeficitNet$Agenda" "kinds" "[I") ∈ wT := mem_wT (tb1 (List.mem_of_getElem? (i := 191) rfl)) rfl
theorem t_192 : (Jvm.Cond.fieldLink "DeficitNet$Agenda" (15 : Nat) "DeficitNet$Agenda" "ticks" "[I") ∈ wT := mem_wT (tb1 (List.mem_of_getElem? (i := 192) rfl)) rfl
theorem t_193 : (Jvm.Cond.fieldLink "DeficitNet" (161 : Nat) "DeficitNet$Agenda" "ticks" "[I") ∈ wT := mem_wT (tb1 (List.mem_of_getElem? (i := 193) rfl)) rfl
theorem t_194 : (Jvm.Cond.fieldLink "DeficitNet$Agenda" (18 : Nat) "DeficitNet$Agenda" "turns" "[I") ∈ wT := mem_wT (tb1 (List.mem_of_getElem? (i := 194) rfl)) rfl
theorem t_195 : (Jvm.Cond.fieldLink "DeficitNet$Agenda" (27 : Nat) "DeficitNet$Agenda" "turn" "I") ∈ wT := mem_wT (tb1 (List.mem_of_getElem? (i := 195) rfl)) rfl
theorem t_196 : (Jvm.Cond.laysFinal "DeficitNet$Agenda" "DeficitNet$Agenda" "kinds" "[I") ∈ wT := mem_wT (tb1 (List.mem_of_getElem? (i := 196) rfl)) rfl
theorem t_198 : (Jvm.Cond.laysFinal "DeficitNet$Agenda" "DeficitNet$Agenda" "ticks" "[I") ∈ wT := mem_wT (tb1 (List.mem_of_getElem? (i := 198) rfl)) rfl
theorem t_200 : (Jvm.Cond.laysFinal "DeficitNet$Agenda" "DeficitNet$Agenda" "turns" "[I") ∈ wT := mem_wT (tb1 (List.mem_of_getElem? (i := 200) rfl)) rfl
theorem t_202 : (Jvm.Cond.lays "DeficitNet$Agenda" "DeficitNet$Agenda" "turn" "I") ∈ wT := mem_wT (tb1 (List.mem_of_getElem? (i := 202) rfl)) rfl
theorem t_206 : (Jvm.Cond.instanceMethod ({ cls := "DeficitNet", name := "clear", desc := "()V" } : Jvm.MethodName)) ∈ wT := mem_wT (tb1 (List.mem_of_getElem? (i := 206) rfl)) rfl
theorem t_207 : (Jvm.Cond.selects "DeficitNet" ({ cls := "DeficitNet", name := "clear", desc := "()V" } : Jvm.MethodName) ({ cls := "DeficitNet", name := "clear", desc := "()V" } : Jvm.MethodName)) ∈ wT := mem_wT (tb1 (List.mem_of_getElem? (i := 207) rfl)) rfl
theorem t_208 : (Jvm.Cond.code ({ cls := "DeficitNet", name := "clear", desc := "()V" } : Jvm.MethodName) prog_1_method_6_code (2 : Nat) (Option.none : Option Jvm.ClassFile.FieldType)) ∈ wT := mem_wT (tb1 (List.mem_of_getElem? (i := 208) rfl)) rfl
theorem t_209 : (Jvm.Cond.methodLink "DeficitNet" (104 : Nat) ({ cls := "java/util/Arrays", name := "fill", desc := "([II)V" } : Jvm.MethodName)) ∈ wT := mem_wT (tb1 (List.mem_of_getElem? (i := 209) rfl)) rfl
theorem t_210 : (Jvm.Cond.static ({ cls := "java/util/Arrays", name := "fill", desc := "([II)V" } : Jvm.MethodName)) ∈ wT := mem_wT (tb1 (List.mem_of_getElem? (i := 210) rfl)) rfl
theorem t_211 : (Jvm.Cond.code ({ cls := "java/util/Arrays", name := "fill", desc := "([II)V" } : Jvm.MethodName) prog_10_method_103_code (4 : Nat) (Option.none : Option Jvm.ClassFile.FieldType)) ∈ wT := mem_wT (tb1 (List.mem_of_getElem? (i := 211) rfl)) rfl
theorem t_212 : (Jvm.Cond.methodLink "DeficitNet" (113 : Nat) ({ cls := "DeficitNet$Agenda", name := "unsetAll", desc := "()V" } : Jvm.MethodName)) ∈ wT := mem_wT (tb1 (List.mem_of_getElem? (i := 212) rfl)) rfl
theorem t_213 : (Jvm.Cond.instanceMethod ({ cls := "DeficitNet$Agenda", name := "unsetAll", desc := "()V" } : Jvm.MethodName)) ∈ wT := mem_wT (tb1 (List.mem_of_getElem? (i := 213) rfl)) rfl
theorem t_214 : (Jvm.Cond.selects "DeficitNet$Agenda" ({ cls := "DeficitNet$Agenda", name := "unsetAll", desc := "()V" } : Jvm.MethodName) ({ cls := "DeficitNet$Agenda", name := "unsetAll", desc := "()V" } : Jvm.MethodName)) ∈ wT := mem_wT (tb1 (List.mem_of_getElem? (i := 214) rfl)) rfl
theorem t_215 : (Jvm.Cond.code ({ cls := "DeficitNet$Agenda", name := "unsetAll", desc := "()V" } : Jvm.MethodName) prog_2_method_2_code (1 : Nat) (Option.none : Option Jvm.ClassFile.FieldType)) ∈ wT := mem_wT (tb1 (List.mem_of_getElem? (i := 215) rfl)) rfl
theorem t_216 : (Jvm.Cond.methodLink "DeficitNet$Agenda" (21 : Nat) ({ cls := "java/util/Arrays", name := "fill", desc := "([II)V" } : Jvm.MethodName)) ∈ wT := mem_wT (tb1 (List.mem_of_getElem? (i := 216) rfl)) rfl
theorem t_217 : (Jvm.Cond.constantLong "DeficitNet" (116 : Nat) (-1 : Int64)) ∈ wT := mem_wT (tb1 (List.mem_of_getElem? (i := 217) rfl)) rfl
theorem t_218 : (Jvm.Cond.methodLink "DeficitNet" (118 : Nat) ({ cls := "java/util/Arrays", name := "fill", desc := "([JJ)V" } : Jvm.MethodName)) ∈ wT := mem_wT (tb1 (List.mem_of_getElem? (i := 218) rfl)) rfl
theorem t_219 : (Jvm.Cond.static ({ cls := "java/util/Arrays", name := "fill", desc := "([JJ)V" } : Jvm.MethodName)) ∈ wT := mem_wT (tb1 (List.mem_of_getElem? (i := 219) rfl)) rfl
theorem t_220 : (Jvm.Cond.code ({ cls := "java/util/Arrays", name := "fill", desc := "([JJ)V" } : Jvm.MethodName) prog_10_method_101_code (5 : Nat) (Option.none : Option Jvm.ClassFile.FieldType)) ∈ wT := mem_wT (tb1 (List.mem_of_getElem? (i := 220) rfl)) rfl
theorem t_221 : (Jvm.Cond.fieldLink "DeficitNet" (11 : Nat) "DeficitNet" "distances" "[[I") ∈ wT := mem_wT (tb1 (List.mem_of_getElem? (i := 221) rfl)) rfl
theorem t_222 : (Jvm.Cond.fieldLink "DeficitNet" (16 : Nat) "DeficitNet" "ports" "[LDeficitNet$Port;") ∈ wT := mem_wT (tb1 (List.mem_of_getElem? (i := 222) rfl)) rfl
theorem t_223 : (Jvm.Cond.fieldLink "DeficitNet" (23 : Nat) "DeficitNet" "flows" "[LDeficitNet$Flow;") ∈ wT := mem_wT (tb1 (List.mem_of_getElem? (i := 223) rfl)) rfl
theorem t_224 : (Jvm.Cond.fieldLink "DeficitNet" (30 : Nat) "DeficitNet" "packets" "[LDeficitNet$Packet;") ∈ wT := mem_wT (tb1 (List.mem_of_getElem? (i := 224) rfl)) rfl
theorem t_225 : (Jvm.Cond.fieldLink "DeficitNet" (38 : Nat) "DeficitNet" "agenda" "LDeficitNet$Agenda;") ∈ wT := mem_wT (tb1 (List.mem_of_getElem? (i := 225) rfl)) rfl
theorem t_226 : (Jvm.Cond.fieldLink "DeficitNet" (42 : Nat) "DeficitNet" "latest" "[J") ∈ wT := mem_wT (tb1 (List.mem_of_getElem? (i := 226) rfl)) rfl
theorem t_227 : (Jvm.Cond.fieldLink "DeficitNet" (53 : Nat) "DeficitNet" "linkCount" "I") ∈ wT := mem_wT (tb1 (List.mem_of_getElem? (i := 227) rfl)) rfl
theorem t_228 : (Jvm.Cond.fieldLink "DeficitNet" (82 : Nat) "DeficitNet" "flowCount" "I") ∈ wT := mem_wT (tb1 (List.mem_of_getElem? (i := 228) rfl)) rfl
theorem t_229 : (Jvm.Cond.fieldLink "DeficitNet" (101 : Nat) "DeficitNet" "nowTick" "I") ∈ wT := mem_wT (tb1 (List.mem_of_getElem? (i := 229) rfl)) rfl
theorem t_230 : (Jvm.Cond.fieldLink "DeficitNet" (49 : Nat) "DeficitNet" "begun" "Z") ∈ wT := mem_wT (tb1 (List.mem_of_getElem? (i := 230) rfl)) rfl
theorem t_231 : (Jvm.Cond.laysFinal "DeficitNet" "DeficitNet" "distances" "[[I") ∈ wT := mem_wT (tb1 (List.mem_of_getElem? (i := 231) rfl)) rfl
theorem t_233 : (Jvm.Cond.laysFinal "DeficitNet" "DeficitNet" "ports" "[LDeficitNet$Port;") ∈ wT := mem_wT (tb1 (List.mem_of_getElem? (i := 233) rfl)) rfl
theorem t_235 : (Jvm.Cond.laysFinal "DeficitNet" "DeficitNet" "flows" "[LDeficitNet$Flow;") ∈ wT := mem_wT (tb1 (List.mem_of_getElem? (i := 235) rfl)) rfl
theorem t_237 : (Jvm.Cond.laysFinal "DeficitNet" "DeficitNet" "packets" "[LDeficitNet$Packet;") ∈ wT := mem_wT (tb1 (List.mem_of_getElem? (i := 237) rfl)) rfl
theorem t_239 : (Jvm.Cond.laysFinal "DeficitNet" "DeficitNet" "agenda" "LDeficitNet$Agenda;") ∈ wT := mem_wT (tb1 (List.mem_of_getElem? (i := 239) rfl)) rfl
theorem t_241 : (Jvm.Cond.laysFinal "DeficitNet" "DeficitNet" "latest" "[J") ∈ wT := mem_wT (tb2 (List.mem_of_getElem? (i := 1) rfl)) rfl
theorem t_243 : (Jvm.Cond.lays "DeficitNet" "DeficitNet" "linkCount" "I") ∈ wT := mem_wT (tb2 (List.mem_of_getElem? (i := 3) rfl)) rfl
theorem t_245 : (Jvm.Cond.lays "DeficitNet" "DeficitNet" "flowCount" "I") ∈ wT := mem_wT (tb2 (List.mem_of_getElem? (i := 5) rfl)) rfl
theorem t_247 : (Jvm.Cond.lays "DeficitNet" "DeficitNet" "nowTick" "I") ∈ wT := mem_wT (tb2 (List.mem_of_getElem? (i := 7) rfl)) rfl
theorem t_249 : (Jvm.Cond.lays "DeficitNet" "DeficitNet" "begun" "Z") ∈ wT := mem_wT (tb2 (List.mem_of_getElem? (i := 9) rfl)) rfl
theorem t_254 : (Jvm.Cond.instanceMethod ({ cls := "DeficitNet", name := "link", desc := "(IIIII)I" } : Jvm.MethodName)) ∈ wT := mem_wT (tb2 (List.mem_of_getElem? (i := 14) rfl)) rfl
theorem t_255 : (Jvm.Cond.selects "DeficitNet" ({ cls := "DeficitNet", name := "link", desc := "(IIIII)I" } : Jvm.MethodName) ({ cls := "DeficitNet", name := "link", desc := "(IIIII)I" } : Jvm.MethodName)) ∈ wT := mem_wT (tb2 (List.mem_of_getElem? (i := 15) rfl)) rfl
theorem t_256 : (Jvm.Cond.code ({ cls := "DeficitNet", name := "link", desc := "(IIIII)I" } : Jvm.MethodName) prog_1_method_2_code (7 : Nat) (Option.some Jvm.ClassFile.FieldType.int)) ∈ wT := mem_wT (tb2 (List.mem_of_getElem? (i := 16) rfl)) rfl
theorem t_257 : (Jvm.Cond.methodLink "DeficitNet" (57 : Nat) ({ cls := "DeficitNet", name := "isNode", desc := "(I)Z" } : Jvm.MethodName)) ∈ wT := mem_wT (tb2 (List.mem_of_getElem? (i := 17) rfl)) rfl
theorem t_258 : (Jvm.Cond.static ({ cls := "DeficitNet", name := "isNode", desc := "(I)Z" } : Jvm.MethodName)) ∈ wT := mem_wT (tb2 (List.mem_of_getElem? (i := 18) rfl)) rfl
theorem t_259 : (Jvm.Cond.code ({ cls := "DeficitNet", name := "isNode", desc := "(I)Z" } : Jvm.MethodName) prog_1_method_19_code (1 : Nat) (Option.some Jvm.ClassFile.FieldType.boolean)) ∈ wT := mem_wT (tb2 (List.mem_of_getElem? (i := 19) rfl)) rfl
theorem t_260 : (Jvm.Cond.methodLink "DeficitNet" (61 : Nat) ({ cls := "DeficitNet", name := "isWithin", desc := "(III)Z" } : Jvm.MethodName)) ∈ wT := mem_wT (tb2 (List.mem_of_getElem? (i := 20) rfl)) rfl
theorem t_261 : (Jvm.Cond.static ({ cls := "DeficitNet", name := "isWithin", desc := "(III)Z" } : Jvm.MethodName)) ∈ wT := mem_wT (tb2 (List.mem_of_getElem? (i := 21) rfl)) rfl
theorem t_262 : (Jvm.Cond.code ({ cls := "DeficitNet", name := "isWithin", desc := "(III)Z" } : Jvm.MethodName) prog_1_method_18_code (3 : Nat) (Option.some Jvm.ClassFile.FieldType.boolean)) ∈ wT := mem_wT (tb2 (List.mem_of_getElem? (i := 22) rfl)) rfl
theorem t_263 : (Jvm.Cond.methodLink "DeficitNet" (65 : Nat) ({ cls := "DeficitNet$Port", name := "lay", desc := "(IIIII)V" } : Jvm.MethodName)) ∈ wT := mem_wT (tb2 (List.mem_of_getElem? (i := 23) rfl)) rfl
theorem t_264 : (Jvm.Cond.instanceMethod ({ cls := "DeficitNet$Port", name := "lay", desc := "(IIIII)V" } : Jvm.MethodName)) ∈ wT := mem_wT (tb2 (List.mem_of_getElem? (i := 24) rfl)) rfl
theorem t_265 : (Jvm.Cond.selects "DeficitNet$Port" ({ cls := "DeficitNet$Port", name := "lay", desc := "(IIIII)V" } : Jvm.MethodName) ({ cls := "DeficitNet$Port", name := "lay", desc := "(IIIII)V" } : Jvm.MethodName)) ∈ wT := mem_wT (tb2 (List.mem_of_getElem? (i := 25) rfl)) rfl
theorem t_266 : (Jvm.Cond.code ({ cls := "DeficitNet$Port", name := "lay", desc := "(IIIII)V" } : Jvm.MethodName) prog_5_method_2_code (6 : Nat) (Option.none : Option Jvm.ClassFile.FieldType)) ∈ wT := mem_wT (tb2 (List.mem_of_getElem? (i := 26) rfl)) rfl
theorem t_267 : (Jvm.Cond.methodLink "DeficitNet$Port" (56 : Nat) ({ cls := "java/util/Arrays", name := "fill", desc := "([II)V" } : Jvm.MethodName)) ∈ wT := mem_wT (tb2 (List.mem_of_getElem? (i := 27) rfl)) rfl
theorem t_268 : (Jvm.Cond.methodLink "DeficitNet" (69 : Nat) ({ cls := "DeficitNet", name := "shortenOver", desc := "(III)V" } : Jvm.MethodName)) ∈ wT := mem_wT (tb2 (List.mem_of_getElem? (i := 28) rfl)) rfl
theorem t_270 : (Jvm.Cond.instanceMethod ({ cls := "DeficitNet", name := "shortenOver", desc := "(III)V" } : Jvm.MethodName)) ∈ wT := mem_wT (tb2 (List.mem_of_getElem? (i := 30) rfl)) rfl
theorem t_271 : (Jvm.Cond.code ({ cls := "DeficitNet", name := "shortenOver", desc := "(III)V" } : Jvm.MethodName) prog_1_method_22_code (7 : Nat) (Option.none : Option Jvm.ClassFile.FieldType)) ∈ wT := mem_wT (tb2 (List.mem_of_getElem? (i := 31) rfl)) rfl
theorem t_273 : (Jvm.Cond.instanceMethod ({ cls := "DeficitNet", name := "shape", desc := "(III)Z" } : Jvm.MethodName)) ∈ wT := mem_wT (tb2 (List.mem_of_getElem? (i := 33) rfl)) rfl
theorem t_274 : (Jvm.Cond.selects "DeficitNet" ({ cls := "DeficitNet", name := "shape", desc := "(III)Z" } : Jvm.MethodName) ({ cls := "DeficitNet", name := "shape", desc := "(III)Z" } : Jvm.MethodName)) ∈ wT := mem_wT (tb2 (List.mem_of_getElem? (i := 34) rfl)) rfl
theorem t_275 : (Jvm.Cond.code ({ cls := "DeficitNet", name := "shape", desc := "(III)Z" } : Jvm.MethodName) prog_1_method_3_code (4 : Nat) (Option.some Jvm.ClassFile.FieldType.boolean)) ∈ wT := mem_wT (tb2 (List.mem_of_getElem? (i := 35) rfl)) rfl
theorem t_276 : (Jvm.Cond.methodLink "DeficitNet" (73 : Nat) ({ cls := "DeficitNet", name := "isPort", desc := "(I)Z" } : Jvm.MethodName)) ∈ wT := mem_wT (tb2 (List.mem_of_getElem? (i := 36) rfl)) rfl
theorem t_278 : (Jvm.Cond.instanceMethod ({ cls := "DeficitNet", name := "isPort", desc := "(I)Z" } : Jvm.MethodName)) ∈ wT := mem_wT (tb2 (List.mem_of_getElem? (i := 38) rfl)) rfl
theorem t_279 : (Jvm.Cond.code ({ cls := "DeficitNet", name := "isPort", desc := "(I)Z" } : Jvm.MethodName) prog_1_method_20_code (2 : Nat) (Option.some Jvm.ClassFile.FieldType.boolean)) ∈ wT := mem_wT (tb2 (List.mem_of_getElem? (i := 39) rfl)) rfl
theorem t_281 : (Jvm.Cond.instanceMethod ({ cls := "DeficitNet", name := "flow", desc := "(IIII)I" } : Jvm.MethodName)) ∈ wT := mem_wT (tb2 (List.mem_of_getElem? (i := 41) rfl)) rfl
theorem t_282 : (Jvm.Cond.selects "DeficitNet" ({ cls := "DeficitNet", name := "flow", desc := "(IIII)I" } : Jvm.MethodName) ({ cls := "DeficitNet", name := "flow", desc := "(IIII)I" } : Jvm.MethodName)) ∈ wT := mem_wT (tb2 (List.mem_of_getElem? (i := 42) rfl)) rfl
theorem t_283 : (Jvm.Cond.code ({ cls := "DeficitNet", name := "flow", desc := "(IIII)I" } : Jvm.MethodName) prog_1_method_4_code (6 : Nat) (Option.some Jvm.ClassFile.FieldType.int)) ∈ wT := mem_wT (tb2 (List.mem_of_getElem? (i := 43) rfl)) rfl
theorem t_284 : (Jvm.Cond.methodLink "DeficitNet" (85 : Nat) ({ cls := "DeficitNet$Flow", name := "found", desc := "(IIII)V" } : Jvm.MethodName)) ∈ wT := mem_wT (tb2 (List.mem_of_getElem? (i := 44) rfl)) rfl
theorem t_285 : (Jvm.Cond.instanceMethod ({ cls := "DeficitNet$Flow", name := "found", desc := "(IIII)V" } : Jvm.MethodName)) ∈ wT := mem_wT (tb2 (List.mem_of_getElem? (i := 45) rfl)) rfl
theorem t_286 : (Jvm.Cond.selects "DeficitNet$Flow" ({ cls := "DeficitNet$Flow", name := "found", desc := "(IIII)V" } : Jvm.MethodName) ({ cls := "DeficitNet$Flow", name := "found", desc := "(IIII)V" } : Jvm.MethodName)) ∈ wT := mem_wT (tb2 (List.mem_of_getElem? (i := 46) rfl)) rfl
theorem t_287 : (Jvm.Cond.code ({ cls := "DeficitNet$Flow", name := "found", desc := "(IIII)V" } : Jvm.MethodName) prog_3_method_2_code (5 : Nat) (Option.none : Option Jvm.ClassFile.FieldType)) ∈ wT := mem_wT (tb2 (List.mem_of_getElem? (i := 47) rfl)) rfl
theorem t_289 : (Jvm.Cond.instanceMethod ({ cls := "DeficitNet", name := "tune", desc := "(IIII)Z" } : Jvm.MethodName)) ∈ wT := mem_wT (tb2 (List.mem_of_getElem? (i := 49) rfl)) rfl
theorem t_290 : (Jvm.Cond.selects "DeficitNet" ({ cls := "DeficitNet", name := "tune", desc := "(IIII)Z" } : Jvm.MethodName) ({ cls := "DeficitNet", name := "tune", desc := "(IIII)Z" } : Jvm.MethodName)) ∈ wT := mem_wT (tb2 (List.mem_of_getElem? (i := 50) rfl)) rfl
theorem t_291 : (Jvm.Cond.code ({ cls := "DeficitNet", name := "tune", desc := "(IIII)Z" } : Jvm.MethodName) prog_1_method_5_code (5 : Nat) (Option.some Jvm.ClassFile.FieldType.boolean)) ∈ wT := mem_wT (tb2 (List.mem_of_getElem? (i := 51) rfl)) rfl
theorem t_292 : (Jvm.Cond.methodLink "DeficitNet" (89 : Nat) ({ cls := "DeficitNet", name := "isFlow", desc := "(I)Z" } : Jvm.MethodName)) ∈ wT := mem_wT (tb2 (List.mem_of_getElem? (i := 52) rfl)) rfl
theorem t_294 : (Jvm.Cond.instanceMethod ({ cls := "DeficitNet", name := "isFlow", desc := "(I)Z" } : Jvm.MethodName)) ∈ wT := mem_wT (tb2 (List.mem_of_getElem? (i := 54) rfl)) rfl
theorem t_295 : (Jvm.Cond.code ({ cls := "DeficitNet", name := "isFlow", desc := "(I)Z" } : Jvm.MethodName) prog_1_method_21_code (2 : Nat) (Option.some Jvm.ClassFile.FieldType.boolean)) ∈ wT := mem_wT (tb2 (List.mem_of_getElem? (i := 55) rfl)) rfl
theorem t_298 : (Jvm.Cond.instanceMethod ({ cls := "DeficitNet", name := "step", desc := "()Z" } : Jvm.MethodName)) ∈ wT := mem_wT (tb2 (List.mem_of_getElem? (i := 58) rfl)) rfl
theorem t_299 : (Jvm.Cond.selects "DeficitNet" ({ cls := "DeficitNet", name := "step", desc := "()Z" } : Jvm.MethodName) ({ cls := "DeficitNet", name := "step", desc := "()Z" } : Jvm.MethodName)) ∈ wT := mem_wT (tb2 (List.mem_of_getElem? (i := 59) rfl)) rfl
theorem t_300 : (Jvm.Cond.code ({ cls := "DeficitNet", name := "step", desc := "()Z" } : Jvm.MethodName) prog_1_method_7_code (1 : Nat) (Option.some Jvm.ClassFile.FieldType.boolean)) ∈ wT := mem_wT (tb2 (List.mem_of_getElem? (i := 60) rfl)) rfl
theorem t_301 : (Jvm.Cond.methodLink "DeficitNet" (121 : Nat) ({ cls := "DeficitNet", name := "begin", desc := "()V" } : Jvm.MethodName)) ∈ wT := mem_wT (tb2 (List.mem_of_getElem? (i := 61) rfl)) rfl
theorem t_303 : (Jvm.Cond.instanceMethod ({ cls := "DeficitNet", name := "begin", desc := "()V" } : Jvm.MethodName)) ∈ wT := mem_wT (tb2 (List.mem_of_getElem? (i := 63) rfl)) rfl
theorem t_304 : (Jvm.Cond.code ({ cls := "DeficitNet", name := "begin", desc := "()V" } : Jvm.MethodName) prog_1_method_23_code (2 : Nat) (Option.none : Option Jvm.ClassFile.FieldType)) ∈ wT := mem_wT (tb2 (List.mem_of_getElem? (i := 64) rfl)) rfl
theorem t_305 : (Jvm.Cond.methodLink "DeficitNet" (185 : Nat) ({ cls := "DeficitNet$Agenda", name := "set", desc := "(III)V" } : Jvm.MethodName)) ∈ wT := mem_wT (tb2 (List.mem_of_getElem? (i := 65) rfl)) rfl
theorem t_306 : (Jvm.Cond.instanceMethod ({ cls := "DeficitNet$Agenda", name := "set", desc := "(III)V" } : Jvm.MethodName)) ∈ wT := mem_wT (tb2 (List.mem_of_getElem? (i := 66) rfl)) rfl
theorem t_307 : (Jvm.Cond.selects "DeficitNet$Agenda" ({ cls := "DeficitNet$Agenda", name := "set", desc := "(III)V" } : Jvm.MethodName) ({ cls := "DeficitNet$Agenda", name := "set", desc := "(III)V" } : Jvm.MethodName)) ∈ wT := mem_wT (tb2 (List.mem_of_getElem? (i := 67) rfl)) rfl
theorem t_308 : (Jvm.Cond.code ({ cls := "DeficitNet$Agenda", name := "set", desc := "(III)V" } : Jvm.MethodName) prog_2_method_4_code (4 : Nat) (Option.none : Option Jvm.ClassFile.FieldType)) ∈ wT := mem_wT (tb2 (List.mem_of_getElem? (i := 68) rfl)) rfl
theorem t_309 : (Jvm.Cond.methodLink "DeficitNet" (124 : Nat) ({ cls := "DeficitNet", name := "happen", desc := "()Z" } : Jvm.MethodName)) ∈ wT := mem_wT (tb2 (List.mem_of_getElem? (i := 69) rfl)) rfl
theorem t_311 : (Jvm.Cond.instanceMethod ({ cls := "DeficitNet", name := "happen", desc := "()Z" } : Jvm.MethodName)) ∈ wT := mem_wT (tb2 (List.mem_of_getElem? (i := 71) rfl)) rfl
theorem t_312 : (Jvm.Cond.code ({ cls := "DeficitNet", name := "happen", desc := "()Z" } : Jvm.MethodName) prog_1_method_24_code (3 : Nat) (Option.some Jvm.ClassFile.FieldType.boolean)) ∈ wT := mem_wT (tb2 (List.mem_of_getElem? (i := 72) rfl)) rfl
theorem t_313 : (Jvm.Cond.methodLink "DeficitNet" (188 : Nat) ({ cls := "DeficitNet$Agenda", name := "firstSlot", desc := "()I" } : Jvm.MethodName)) ∈ wT := mem_wT (tb2 (List.mem_of_getElem? (i := 73) rfl)) rfl
theorem t_314 : (Jvm.Cond.instanceMethod ({ cls := "DeficitNet$Agenda", name := "firstSlot", desc := "()I" } : Jvm.MethodName)) ∈ wT := mem_wT (tb2 (List.mem_of_getElem? (i := 74) rfl)) rfl
theorem t_315 : (Jvm.Cond.selects "DeficitNet$Agenda" ({ cls := "DeficitNet$Agenda", name := "firstSlot", desc := "()I" } : Jvm.MethodName) ({ cls := "DeficitNet$Agenda", name := "firstSlot", desc := "()I" } : Jvm.MethodName)) ∈ wT := mem_wT (tb2 (List.mem_of_getElem? (i := 75) rfl)) rfl
theorem t_316 : (Jvm.Cond.code ({ cls := "DeficitNet$Agenda", name := "firstSlot", desc := "()I" } : Jvm.MethodName) prog_2_method_5_code (3 : Nat) (Option.some Jvm.ClassFile.FieldType.int)) ∈ wT := mem_wT (tb2 (List.mem_of_getElem? (i := 76) rfl)) rfl
theorem t_317 : (Jvm.Cond.methodLink "DeficitNet$Agenda" (31 : Nat) ({ cls := "DeficitNet$Agenda", name := "isBefore", desc := "(II)Z" } : Jvm.MethodName)) ∈ wT := mem_wT (tb2 (List.mem_of_getElem? (i := 77) rfl)) rfl
theorem t_318 : (Jvm.Cond.instanceMethod ({ cls := "DeficitNet$Agenda", name := "isBefore", desc := "(II)Z" } : Jvm.MethodName)) ∈ wT := mem_wT (tb2 (List.mem_of_getElem? (i := 78) rfl)) rfl
theorem t_319 : (Jvm.Cond.selects "DeficitNet$Agenda" ({ cls := "DeficitNet$Agenda", name := "isBefore", desc := "(II)Z" } : Jvm.MethodName) ({ cls := "DeficitNet$Agenda", name := "isBefore", desc := "(II)Z" } : Jvm.MethodName)) ∈ wT := mem_wT (tb2 (List.mem_of_getElem? (i := 79) rfl)) rfl
theorem t_320 : (Jvm.Cond.code ({ cls := "DeficitNet$Agenda", name := "isBefore", desc := "(II)Z" } : Jvm.MethodName) prog_2_method_6_code (3 : Nat) (Option.some Jvm.ClassFile.FieldType.boolean)) ∈ wT := mem_wT (tb2 (List.mem_of_getElem? (i := 80) rfl)) rfl
theorem t_321 : (Jvm.Cond.methodLink "DeficitNet" (194 : Nat) ({ cls := "DeficitNet$Agenda", name := "unset", desc := "(I)V" } : Jvm.MethodName)) ∈ wT := mem_wT (tb2 (List.mem_of_getElem? (i := 81) rfl)) rfl
theorem t_322 : (Jvm.Cond.instanceMethod ({ cls := "DeficitNet$Agenda", name := "unset", desc := "(I)V" } : Jvm.MethodName)) ∈ wT := mem_wT (tb2 (List.mem_of_getElem? (i := 82) rfl)) rfl
theorem t_323 : (Jvm.Cond.selects "DeficitNet$Agenda" ({ cls := "DeficitNet$Agenda", name := "unset", desc := "(I)V" } : Jvm.MethodName) ({ cls := "DeficitNet$Agenda", name := "unset", desc := "(I)V" } : Jvm.MethodName)) ∈ wT := mem_wT (tb2 (List.mem_of_getElem? (i := 83) rfl)) rfl
theorem t_324 : (Jvm.Cond.code ({ cls := "DeficitNet$Agenda", name := "unset", desc := "(I)V" } : Jvm.MethodName) prog_2_method_3_code (2 : Nat) (Option.none : Option Jvm.ClassFile.FieldType)) ∈ wT := mem_wT (tb2 (List.mem_of_getElem? (i := 84) rfl)) rfl
theorem t_325 : (Jvm.Cond.methodLink "DeficitNet" (198 : Nat) ({ cls := "DeficitNet", name := "start", desc := "(I)V" } : Jvm.MethodName)) ∈ wT := mem_wT (tb2 (List.mem_of_getElem? (i := 85) rfl)) rfl
theorem t_327 : (Jvm.Cond.instanceMethod ({ cls := "DeficitNet", name := "start", desc := "(I)V" } : Jvm.MethodName)) ∈ wT := mem_wT (tb2 (List.mem_of_getElem? (i := 87) rfl)) rfl
theorem t_328 : (Jvm.Cond.code ({ cls := "DeficitNet", name := "start", desc := "(I)V" } : Jvm.MethodName) prog_1_method_25_code (2 : Nat) (Option.none : Option Jvm.ClassFile.FieldType)) ∈ wT := mem_wT (tb2 (List.mem_of_getElem? (i := 88) rfl)) rfl
theorem t_329 : (Jvm.Cond.methodLink "DeficitNet" (210 : Nat) ({ cls := "DeficitNet", name := "remember", desc := "(III)V" } : Jvm.MethodName)) ∈ wT := mem_wT (tb2 (List.mem_of_getElem? (i := 89) rfl)) rfl
theorem t_331 : (Jvm.Cond.instanceMethod ({ cls := "DeficitNet", name := "remember", desc := "(III)V" } : Jvm.MethodName)) ∈ wT := mem_wT (tb2 (List.mem_of_getElem? (i := 91) rfl)) rfl
theorem t_332 : (Jvm.Cond.code ({ cls := "DeficitNet", name := "remember", desc := "(III)V" } : Jvm.MethodName) prog_1_method_39_code (4 : Nat) (Option.none : Option Jvm.ClassFile.FieldType)) ∈ wT := mem_wT (tb2 (List.mem_of_getElem? (i := 92) rfl)) rfl
theorem t_333 : (Jvm.Cond.methodLink "DeficitNet" (304 : Nat) ({ cls := "java/lang/System", name := "arraycopy", desc := "(Ljava/lang/Object;ILjava/lang/Object;II)V" } : Jvm.MethodName)) ∈ wT := mem_wT (tb2 (List.mem_of_getElem? (i := 93) rfl)) rfl
theorem t_334 : (Jvm.Cond.static ({ cls := "java/lang/System", name := "arraycopy", desc := "(Ljava/lang/Object;ILjava/lang/Object;II)V" } : Jvm.MethodName)) ∈ wT := mem_wT (tb2 (List.mem_of_getElem? (i := 94) rfl)) rfl
theorem t_335 : (Jvm.Cond.native ({ cls := "java/lang/System", name := "arraycopy", desc := "(Ljava/lang/Object;ILjava/lang/Object;II)V" } : Jvm.MethodName)) ∈ wT := mem_wT (tb2 (List.mem_of_getElem? (i := 95) rfl)) rfl
theorem t_336 : (Jvm.Cond.constantLong "DeficitNet" (310 : Nat) (1048576 : Int64)) ∈ wT := mem_wT (tb2 (List.mem_of_getElem? (i := 96) rfl)) rfl
theorem t_337 : (Jvm.Cond.constant "DeficitNet" (312 : Nat) (65536 : Int32)) ∈ wT := mem_wT (tb2 (List.mem_of_getElem? (i := 97) rfl)) rfl
theorem t_338 : (Jvm.Cond.methodLink "DeficitNet" (213 : Nat) ({ cls := "DeficitNet", name := "fill", desc := "(I)V" } : Jvm.MethodName)) ∈ wT := mem_wT (tb2 (List.mem_of_getElem? (i := 98) rfl)) rfl
theorem t_340 : (Jvm.Cond.instanceMethod ({ cls := "DeficitNet", name := "fill", desc := "(I)V" } : Jvm.MethodName)) ∈ wT := mem_wT (tb2 (List.mem_of_getElem? (i := 100) rfl)) rfl
theorem t_341 : (Jvm.Cond.code ({ cls := "DeficitNet", name := "fill", desc := "(I)V" } : Jvm.MethodName) prog_1_method_31_code (5 : Nat) (Option.none : Option Jvm.ClassFile.FieldType)) ∈ wT := mem_wT (tb2 (List.mem_of_getElem? (i := 101) rfl)) rfl
theorem t_342 : (Jvm.Cond.methodLink "DeficitNet" (263 : Nat) ({ cls := "java/lang/Math", name := "min", desc := "(II)I" } : Jvm.MethodName)) ∈ wT := mem_wT (tb2 (List.mem_of_getElem? (i := 102) rfl)) rfl
theorem t_343 : (Jvm.Cond.static ({ cls := "java/lang/Math", name := "min", desc := "(II)I" } : Jvm.MethodName)) ∈ wT := mem_wT (tb2 (List.mem_of_getElem? (i := 103) rfl)) rfl
theorem t_344 : (Jvm.Cond.code ({ cls := "java/lang/Math", name := "min", desc := "(II)I" } : Jvm.MethodName) prog_8_method_69_code (2 : Nat) (Option.some Jvm.ClassFile.FieldType.int)) ∈ wT := mem_wT (tb2 (List.mem_of_getElem? (i := 104) rfl)) rfl
theorem t_345 : (Jvm.Cond.methodLink "DeficitNet" (158 : Nat) ({ cls := "DeficitNet", name := "hasTimer", desc := "(I)Z" } : Jvm.MethodName)) ∈ wT := mem_wT (tb2 (List.mem_of_getElem? (i := 105) rfl)) rfl
theorem t_347 : (Jvm.Cond.instanceMethod ({ cls := "DeficitNet", name := "hasTimer", desc := "(I)Z" } : Jvm.MethodName)) ∈ wT := mem_wT (tb2 (List.mem_of_getElem? (i := 107) rfl)) rfl
theorem t_348 : (Jvm.Cond.code ({ cls := "DeficitNet", name := "hasTimer", desc := "(I)Z" } : Jvm.MethodName) prog_1_method_32_code (2 : Nat) (Option.some Jvm.ClassFile.FieldType.boolean)) ∈ wT := mem_wT (tb2 (List.mem_of_getElem? (i := 108) rfl)) rfl
theorem t_349 : (Jvm.Cond.methodLink "DeficitNet" (257 : Nat) ({ cls := "DeficitNet", name := "setTimer", desc := "(I)V" } : Jvm.MethodName)) ∈ wT := mem_wT (tb2 (List.mem_of_getElem? (i := 109) rfl)) rfl
theorem t_351 : (Jvm.Cond.instanceMethod ({ cls := "DeficitNet", name := "setTimer", desc := "(I)V" } : Jvm.MethodName)) ∈ wT := mem_wT (tb2 (List.mem_of_getElem? (i := 111) rfl)) rfl
theorem t_352 : (Jvm.Cond.code ({ cls := "DeficitNet", name := "setTimer", desc := "(I)V" } : Jvm.MethodName) prog_1_method_33_code (2 : Nat) (Option.none : Option Jvm.ClassFile.FieldType)) ∈ wT := mem_wT (tb2 (List.mem_of_getElem? (i := 112) rfl)) rfl
theorem t_353 : (Jvm.Cond.methodLink "DeficitNet" (244 : Nat) ({ cls := "DeficitNet", name := "make", desc := "(IIZ)I" } : Jvm.MethodName)) ∈ wT := mem_wT (tb2 (List.mem_of_getElem? (i := 113) rfl)) rfl
theorem t_355 : (Jvm.Cond.instanceMethod ({ cls := "DeficitNet", name := "make", desc := "(IIZ)I" } : Jvm.MethodName)) ∈ wT := mem_wT (tb2 (List.mem_of_getElem? (i := 115) rfl)) rfl
theorem t_356 : (Jvm.Cond.code ({ cls := "DeficitNet", name := "make", desc := "(IIZ)I" } : Jvm.MethodName) prog_1_method_34_code (5 : Nat) (Option.some Jvm.ClassFile.FieldType.int)) ∈ wT := mem_wT (tb2 (List.mem_of_getElem? (i := 116) rfl)) rfl
theorem t_357 : (Jvm.Cond.methodLink "DeficitNet" (269 : Nat) ({ cls := "DeficitNet$Packet", name := "enter", desc := "(IIZLDeficitNet$Flow;)V" } : Jvm.MethodName)) ∈ wT := mem_wT (tb2 (List.mem_of_getElem? (i := 117) rfl)) rfl
theorem t_358 : (Jvm.Cond.instanceMethod ({ cls := "DeficitNet$Packet", name := "enter", desc := "(IIZLDeficitNet$Flow;)V" } : Jvm.MethodName)) ∈ wT := mem_wT (tb2 (List.mem_of_getElem? (i := 118) rfl)) rfl
theorem t_359 : (Jvm.Cond.selects "DeficitNet$Packet" ({ cls := "DeficitNet$Packet", name := "enter", desc := "(IIZLDeficitNet$Flow;)V" } : Jvm.MethodName) ({ cls := "DeficitNet$Packet", name := "enter", desc := "(IIZLDeficitNet$Flow;)V" } : Jvm.MethodName)) ∈ wT := mem_wT (tb2 (List.mem_of_getElem? (i := 119) rfl)) rfl
theorem t_360 : (Jvm.Cond.code ({ cls := "DeficitNet$Packet", name := "enter", desc := "(IIZLDeficitNet$Flow;)V" } : Jvm.MethodName) prog_4_method_2_code (5 : Nat) (Option.none : Option Jvm.ClassFile.FieldType)) ∈ wT := mem_wT (tb2 (List.mem_of_getElem? (i := 120) rfl)) rfl
theorem t_361 : (Jvm.Cond.methodLink "DeficitNet" (228 : Nat) ({ cls := "DeficitNet", name := "put", desc := "(II)V" } : Jvm.MethodName)) ∈ wT := mem_wT (tb2 (List.mem_of_getElem? (i := 121) rfl)) rfl
theorem t_363 : (Jvm.Cond.instanceMethod ({ cls := "DeficitNet", name := "put", desc := "(II)V" } : Jvm.MethodName)) ∈ wT := mem_wT (tb2 (List.mem_of_getElem? (i := 123) rfl)) rfl
theorem t_364 : (Jvm.Cond.code ({ cls := "DeficitNet", name := "put", desc := "(II)V" } : Jvm.MethodName) prog_1_method_35_code (6 : Nat) (Option.none : Option Jvm.ClassFile.FieldType)) ∈ wT := mem_wT (tb2 (List.mem_of_getElem? (i := 124) rfl)) rfl
theorem t_365 : (Jvm.Cond.methodLink "DeficitNet" (273 : Nat) ({ cls := "DeficitNet", name := "way", desc := "(II)I" } : Jvm.MethodName)) ∈ wT := mem_wT (tb2 (List.mem_of_getElem? (i := 125) rfl)) rfl
theorem t_366 : (Jvm.Cond.instanceMethod ({ cls := "DeficitNet", name := "way", desc := "(II)I" } : Jvm.MethodName)) ∈ wT := mem_wT (tb2 (List.mem_of_getElem? (i := 126) rfl)) rfl
theorem t_367 : (Jvm.Cond.selects "DeficitNet" ({ cls := "DeficitNet", name := "way", desc := "(II)I" } : Jvm.MethodName) ({ cls := "DeficitNet", name := "way", desc := "(II)I" } : Jvm.MethodName)) ∈ wT := mem_wT (tb2 (List.mem_of_getElem? (i := 127) rfl)) rfl
theorem t_368 : (Jvm.Cond.code ({ cls := "DeficitNet", name := "way", desc := "(II)I" } : Jvm.MethodName) prog_1_method_12_code (5 : Nat) (Option.some Jvm.ClassFile.FieldType.int)) ∈ wT := mem_wT (tb2 (List.mem_of_getElem? (i := 128) rfl)) rfl
theorem t_369 : (Jvm.Cond.methodLink "DeficitNet" (140 : Nat) ({ cls := "DeficitNet", name := "queuedOf", desc := "(LDeficitNet$Port;I)I" } : Jvm.MethodName)) ∈ wT := mem_wT (tb2 (List.mem_of_getElem? (i := 129) rfl)) rfl
theorem t_371 : (Jvm.Cond.instanceMethod ({ cls := "DeficitNet", name := "queuedOf", desc := "(LDeficitNet$Port;I)I" } : Jvm.MethodName)) ∈ wT := mem_wT (tb2 (List.mem_of_getElem? (i := 131) rfl)) rfl
theorem t_372 : (Jvm.Cond.code ({ cls := "DeficitNet", name := "queuedOf", desc := "(LDeficitNet$Port;I)I" } : Jvm.MethodName) prog_1_method_37_code (5 : Nat) (Option.some Jvm.ClassFile.FieldType.int)) ∈ wT := mem_wT (tb2 (List.mem_of_getElem? (i := 132) rfl)) rfl
theorem t_373 : (Jvm.Cond.methodLink "DeficitNet" (276 : Nat) ({ cls := "DeficitNet$Port", name := "append", desc := "(I)V" } : Jvm.MethodName)) ∈ wT := mem_wT (tb2 (List.mem_of_getElem? (i := 133) rfl)) rfl
theorem t_374 : (Jvm.Cond.instanceMethod ({ cls := "DeficitNet$Port", name := "append", desc := "(I)V" } : Jvm.MethodName)) ∈ wT := mem_wT (tb2 (List.mem_of_getElem? (i := 134) rfl)) rfl
theorem t_375 : (Jvm.Cond.selects "DeficitNet$Port" ({ cls := "DeficitNet$Port", name := "append", desc := "(I)V" } : Jvm.MethodName) ({ cls := "DeficitNet$Port", name := "append", desc := "(I)V" } : Jvm.MethodName)) ∈ wT := mem_wT (tb2 (List.mem_of_getElem? (i := 135) rfl)) rfl
theorem t_376 : (Jvm.Cond.code ({ cls := "DeficitNet$Port", name := "append", desc := "(I)V" } : Jvm.MethodName) prog_5_method_3_code (2 : Nat) (Option.none : Option Jvm.ClassFile.FieldType)) ∈ wT := mem_wT (tb2 (List.mem_of_getElem? (i := 136) rfl)) rfl
theorem t_377 : (Jvm.Cond.methodLink "DeficitNet" (221 : Nat) ({ cls := "DeficitNet", name := "choose", desc := "(LDeficitNet$Port;)V" } : Jvm.MethodName)) ∈ wT := mem_wT (tb2 (List.mem_of_getElem? (i := 137) rfl)) rfl
theorem t_379 : (Jvm.Cond.instanceMethod ({ cls := "DeficitNet", name := "choose", desc := "(LDeficitNet$Port;)V" } : Jvm.MethodName)) ∈ wT := mem_wT (tb2 (List.mem_of_getElem? (i := 139) rfl)) rfl
theorem t_380 : (Jvm.Cond.code ({ cls := "DeficitNet", name := "choose", desc := "(LDeficitNet$Port;)V" } : Jvm.MethodName) prog_1_method_36_code (6 : Nat) (Option.none : Option Jvm.ClassFile.FieldType)) ∈ wT := mem_wT (tb2 (List.mem_of_getElem? (i := 140) rfl)) rfl
theorem t_381 : (Jvm.Cond.methodLink "DeficitNet" (285 : Nat) ({ cls := "DeficitNet$Port", name := "serveFirst", desc := "()V" } : Jvm.MethodName)) ∈ wT := mem_wT (tb2 (List.mem_of_getElem? (i := 141) rfl)) rfl
theorem t_382 : (Jvm.Cond.instanceMethod ({ cls := "DeficitNet$Port", name := "serveFirst", desc := "()V" } : Jvm.MethodName)) ∈ wT := mem_wT (tb2 (List.mem_of_getElem? (i := 142) rfl)) rfl
theorem t_383 : (Jvm.Cond.selects "DeficitNet$Port" ({ cls := "DeficitNet$Port", name := "serveFirst", desc := "()V" } : Jvm.MethodName) ({ cls := "DeficitNet$Port", name := "serveFirst", desc := "()V" } : Jvm.MethodName)) ∈ wT := mem_wT (tb2 (List.mem_of_getElem? (i := 143) rfl)) rfl
theorem t_384 : (Jvm.Cond.code ({ cls := "DeficitNet$Port", name := "serveFirst", desc := "()V" } : Jvm.MethodName) prog_5_method_5_code (1 : Nat) (Option.none : Option Jvm.ClassFile.FieldType)) ∈ wT := mem_wT (tb2 (List.mem_of_getElem? (i := 144) rfl)) rfl
theorem t_385 : (Jvm.Cond.methodLink "DeficitNet" (288 : Nat) ({ cls := "DeficitNet", name := "firstPlaceOf", desc := "(LDeficitNet$Port;I)I" } : Jvm.MethodName)) ∈ wT := mem_wT (tb2 (List.mem_of_getElem? (i := 145) rfl)) rfl
theorem t_387 : (Jvm.Cond.instanceMethod ({ cls := "DeficitNet", name := "firstPlaceOf", desc := "(LDeficitNet$Port;I)I" } : Jvm.MethodName)) ∈ wT := mem_wT (tb2 (List.mem_of_getElem? (i := 147) rfl)) rfl
theorem t_388 : (Jvm.Cond.code ({ cls := "DeficitNet", name := "firstPlaceOf", desc := "(LDeficitNet$Port;I)I" } : Jvm.MethodName) prog_1_method_38_code (4 : Nat) (Option.some Jvm.ClassFile.FieldType.int)) ∈ wT := mem_wT (tb2 (List.mem_of_getElem? (i := 148) rfl)) rfl
theorem t_389 : (Jvm.Cond.methodLink "DeficitNet" (294 : Nat) ({ cls := "DeficitNet$Port", name := "takeFrom", desc := "(I)I" } : Jvm.MethodName)) ∈ wT := mem_wT (tb2 (List.mem_of_getElem? (i := 149) rfl)) rfl
theorem t_390 : (Jvm.Cond.instanceMethod ({ cls := "DeficitNet$Port", name := "takeFrom", desc := "(I)I" } : Jvm.MethodName)) ∈ wT := mem_wT (tb2 (List.mem_of_getElem? (i := 150) rfl)) rfl
theorem t_391 : (Jvm.Cond.selects "DeficitNet$Port" ({ cls := "DeficitNet$Port", name := "takeFrom", desc := "(I)I" } : Jvm.MethodName) ({ cls := "DeficitNet$Port", name := "takeFrom", desc := "(I)I" } : Jvm.MethodName)) ∈ wT := mem_wT (tb2 (List.mem_of_getElem? (i := 151) rfl)) rfl
theorem t_392 : (Jvm.Cond.code ({ cls := "DeficitNet$Port", name := "takeFrom", desc := "(I)I" } : Jvm.MethodName) prog_5_method_6_code (3 : Nat) (Option.some Jvm.ClassFile.FieldType.int)) ∈ wT := mem_wT (tb2 (List.mem_of_getElem? (i := 152) rfl)) rfl
theorem t_393 : (Jvm.Cond.methodLink "DeficitNet$Port" (62 : Nat) ({ cls := "java/lang/System", name := "arraycopy", desc := "(Ljava/lang/Object;ILjava/lang/Object;II)V" } : Jvm.MethodName)) ∈ wT := mem_wT (tb2 (List.mem_of_getElem? (i := 153) rfl)) rfl
theorem t_394 : (Jvm.Cond.methodLink "DeficitNet" (301 : Nat) ({ cls := "DeficitNet$Port", name := "dropFirst", desc := "()V" } : Jvm.MethodName)) ∈ wT := mem_wT (tb2 (List.mem_of_getElem? (i := 154) rfl)) rfl
theorem t_395 : (Jvm.Cond.instanceMethod ({ cls := "DeficitNet$Port", name := "dropFirst", desc := "()V" } : Jvm.MethodName)) ∈ wT := mem_wT (tb2 (List.mem_of_getElem? (i := 155) rfl)) rfl
theorem t_396 : (Jvm.Cond.selects "DeficitNet$Port" ({ cls := "DeficitNet$Port", name := "dropFirst", desc := "()V" } : Jvm.MethodName) ({ cls := "DeficitNet$Port", name := "dropFirst", desc := "()V" } : Jvm.MethodName)) ∈ wT := mem_wT (tb2 (List.mem_of_getElem? (i := 156) rfl)) rfl
theorem t_397 : (Jvm.Cond.code ({ cls := "DeficitNet$Port", name := "dropFirst", desc := "()V" } : Jvm.MethodName) prog_5_method_4_code (1 : Nat) (Option.none : Option Jvm.ClassFile.FieldType)) ∈ wT := mem_wT (tb2 (List.mem_of_getElem? (i := 157) rfl)) rfl
theorem t_398 : (Jvm.Cond.methodLink "DeficitNet" (201 : Nat) ({ cls := "DeficitNet", name := "leave", desc := "(I)V" } : Jvm.MethodName)) ∈ wT := mem_wT (tb2 (List.mem_of_getElem? (i := 158) rfl)) rfl
theorem t_400 : (Jvm.Cond.instanceMethod ({ cls := "DeficitNet", name := "leave", desc := "(I)V" } : Jvm.MethodName)) ∈ wT := mem_wT (tb2 (List.mem_of_getElem? (i := 160) rfl)) rfl
theorem t_401 : (Jvm.Cond.code ({ cls := "DeficitNet", name := "leave", desc := "(I)V" } : Jvm.MethodName) prog_1_method_27_code (4 : Nat) (Option.none : Option Jvm.ClassFile.FieldType)) ∈ wT := mem_wT (tb2 (List.mem_of_getElem? (i := 161) rfl)) rfl
theorem t_402 : (Jvm.Cond.methodLink "DeficitNet" (154 : Nat) ({ cls := "DeficitNet$Packet", name := "label", desc := "()I" } : Jvm.MethodName)) ∈ wT := mem_wT (tb2 (List.mem_of_getElem? (i := 162) rfl)) rfl
theorem t_403 : (Jvm.Cond.instanceMethod ({ cls := "DeficitNet$Packet", name := "label", desc := "()I" } : Jvm.MethodName)) ∈ wT := mem_wT (tb2 (List.mem_of_getElem? (i := 163) rfl)) rfl
theorem t_404 : (Jvm.Cond.selects "DeficitNet$Packet" ({ cls := "DeficitNet$Packet", name := "label", desc := "()I" } : Jvm.MethodName) ({ cls := "DeficitNet$Packet", name := "label", desc := "()I" } : Jvm.MethodName)) ∈ wT := mem_wT (tb2 (List.mem_of_getElem? (i := 164) rfl)) rfl
theorem t_405 : (Jvm.Cond.code ({ cls := "DeficitNet$Packet", name := "label", desc := "()I" } : Jvm.MethodName) prog_4_method_3_code (1 : Nat) (Option.some Jvm.ClassFile.FieldType.int)) ∈ wT := mem_wT (tb2 (List.mem_of_getElem? (i := 165) rfl)) rfl
theorem t_406 : (Jvm.Cond.methodLink "DeficitNet" (204 : Nat) ({ cls := "DeficitNet", name := "arrive", desc := "(I)V" } : Jvm.MethodName)) ∈ wT := mem_wT (tb2 (List.mem_of_getElem? (i := 166) rfl)) rfl
theorem t_408 : (Jvm.Cond.instanceMethod ({ cls := "DeficitNet", name := "arrive", desc := "(I)V" } : Jvm.MethodName)) ∈ wT := mem_wT (tb2 (List.mem_of_getElem? (i := 168) rfl)) rfl
theorem t_409 : (Jvm.Cond.code ({ cls := "DeficitNet", name := "arrive", desc := "(I)V" } : Jvm.MethodName) prog_1_method_28_code (4 : Nat) (Option.none : Option Jvm.ClassFile.FieldType)) ∈ wT := mem_wT (tb2 (List.mem_of_getElem? (i := 169) rfl)) rfl
theorem t_410 : (Jvm.Cond.methodLink "DeficitNet" (238 : Nat) ({ cls := "DeficitNet", name := "takeData", desc := "(II)V" } : Jvm.MethodName)) ∈ wT := mem_wT (tb2 (List.mem_of_getElem? (i := 170) rfl)) rfl
theorem t_412 : (Jvm.Cond.instanceMethod ({ cls := "DeficitNet", name := "takeData", desc := "(II)V" } : Jvm.MethodName)) ∈ wT := mem_wT (tb2 (List.mem_of_getElem? (i := 172) rfl)) rfl
theorem t_413 : (Jvm.Cond.code ({ cls := "DeficitNet", name := "takeData", desc := "(II)V" } : Jvm.MethodName) prog_1_method_29_code (4 : Nat) (Option.none : Option Jvm.ClassFile.FieldType)) ∈ wT := mem_wT (tb2 (List.mem_of_getElem? (i := 173) rfl)) rfl
theorem t_414 : (Jvm.Cond.methodLink "DeficitNet" (241 : Nat) ({ cls := "DeficitNet", name := "moveBase", desc := "(II)V" } : Jvm.MethodName)) ∈ wT := mem_wT (tb2 (List.mem_of_getElem? (i := 174) rfl)) rfl
theorem t_416 : (Jvm.Cond.instanceMethod ({ cls := "DeficitNet", name := "moveBase", desc := "(II)V" } : Jvm.MethodName)) ∈ wT := mem_wT (tb2 (List.mem_of_getElem? (i := 176) rfl)) rfl
theorem t_417 : (Jvm.Cond.code ({ cls := "DeficitNet", name := "moveBase", desc := "(II)V" } : Jvm.MethodName) prog_1_method_30_code (4 : Nat) (Option.none : Option Jvm.ClassFile.FieldType)) ∈ wT := mem_wT (tb2 (List.mem_of_getElem? (i := 177) rfl)) rfl
theorem t_418 : (Jvm.Cond.methodLink "DeficitNet" (251 : Nat) ({ cls := "java/lang/Math", name := "max", desc := "(II)I" } : Jvm.MethodName)) ∈ wT := mem_wT (tb2 (List.mem_of_getElem? (i := 178) rfl)) rfl
theorem t_419 : (Jvm.Cond.static ({ cls := "java/lang/Math", name := "max", desc := "(II)I" } : Jvm.MethodName)) ∈ wT := mem_wT (tb2 (List.mem_of_getElem? (i := 179) rfl)) rfl
theorem t_420 : (Jvm.Cond.code ({ cls := "java/lang/Math", name := "max", desc := "(II)I" } : Jvm.MethodName) prog_8_method_65_code (2 : Nat) (Option.some Jvm.ClassFile.FieldType.int)) ∈ wT := mem_wT (tb2 (List.mem_of_getElem? (i := 180) rfl)) rfl
theorem t_421 : (Jvm.Cond.methodLink "DeficitNet" (207 : Nat) ({ cls := "DeficitNet", name := "timeOut", desc := "(I)V" } : Jvm.MethodName)) ∈ wT := mem_wT (tb2 (List.mem_of_getElem? (i := 181) rfl)) rfl
theorem t_423 : (Jvm.Cond.instanceMethod ({ cls := "DeficitNet", name := "timeOut", desc := "(I)V" } : Jvm.MethodName)) ∈ wT := mem_wT (tb2 (List.mem_of_getElem? (i := 183) rfl)) rfl
theorem t_424 : (Jvm.Cond.code ({ cls := "DeficitNet", name := "timeOut", desc := "(I)V" } : Jvm.MethodName) prog_1_method_26_code (3 : Nat) (Option.none : Option Jvm.ClassFile.FieldType)) ∈ wT := mem_wT (tb2 (List.mem_of_getElem? (i := 184) rfl)) rfl
theorem t_426 : (Jvm.Cond.instanceMethod ({ cls := "DeficitNet", name := "run", desc := "(I)I" } : Jvm.MethodName)) ∈ wT := mem_wT (tb2 (List.mem_of_getElem? (i := 186) rfl)) rfl
theorem t_427 : (Jvm.Cond.selects "DeficitNet" ({ cls := "DeficitNet", name := "run", desc := "(I)I" } : Jvm.MethodName) ({ cls := "DeficitNet", name := "run", desc := "(I)I" } : Jvm.MethodName)) ∈ wT := mem_wT (tb2 (List.mem_of_getElem? (i := 187) rfl)) rfl
theorem t_428 : (Jvm.Cond.code ({ cls := "DeficitNet", name := "run", desc := "(I)I" } : Jvm.MethodName) prog_1_method_8_code (3 : Nat) (Option.some Jvm.ClassFile.FieldType.int)) ∈ wT := mem_wT (tb2 (List.mem_of_getElem? (i := 188) rfl)) rfl
theorem t_430 : (Jvm.Cond.instanceMethod ({ cls := "DeficitNet", name := "now", desc := "()I" } : Jvm.MethodName)) ∈ wT := mem_wT (tb2 (List.mem_of_getElem? (i := 190) rfl)) rfl
theorem t_431 : (Jvm.Cond.selects "DeficitNet" ({ cls := "DeficitNet", name := "now", desc := "()I" } : Jvm.MethodName) ({ cls := "DeficitNet", name := "now", desc := "()I" } : Jvm.MethodName)) ∈ wT := mem_wT (tb2 (List.mem_of_getElem? (i := 191) rfl)) rfl
theorem t_432 : (Jvm.Cond.code ({ cls := "DeficitNet", name := "now", desc := "()I" } : Jvm.MethodName) prog_1_method_9_code (1 : Nat) (Option.some Jvm.ClassFile.FieldType.int)) ∈ wT := mem_wT (tb2 (List.mem_of_getElem? (i := 192) rfl)) rfl
theorem t_434 : (Jvm.Cond.instanceMethod ({ cls := "DeficitNet", name := "trace", desc := "(I)J" } : Jvm.MethodName)) ∈ wT := mem_wT (tb2 (List.mem_of_getElem? (i := 194) rfl)) rfl
theorem t_435 : (Jvm.Cond.selects "DeficitNet" ({ cls := "DeficitNet", name := "trace", desc := "(I)J" } : Jvm.MethodName) ({ cls := "DeficitNet", name := "trace", desc := "(I)J" } : Jvm.MethodName)) ∈ wT := mem_wT (tb2 (List.mem_of_getElem? (i := 195) rfl)) rfl
theorem t_436 : (Jvm.Cond.code ({ cls := "DeficitNet", name := "trace", desc := "(I)J" } : Jvm.MethodName) prog_1_method_10_code (2 : Nat) (Option.some Jvm.ClassFile.FieldType.long)) ∈ wT := mem_wT (tb2 (List.mem_of_getElem? (i := 196) rfl)) rfl
theorem t_438 : (Jvm.Cond.instanceMethod ({ cls := "DeficitNet", name := "distance", desc := "(II)I" } : Jvm.MethodName)) ∈ wT := mem_wT (tb2 (List.mem_of_getElem? (i := 198) rfl)) rfl
theorem t_439 : (Jvm.Cond.selects "DeficitNet" ({ cls := "DeficitNet", name := "distance", desc := "(II)I" } : Jvm.MethodName) ({ cls := "DeficitNet", name := "distance", desc := "(II)I" } : Jvm.MethodName)) ∈ wT := mem_wT (tb2 (List.mem_of_getElem? (i := 199) rfl)) rfl
theorem t_440 : (Jvm.Cond.code ({ cls := "DeficitNet", name := "distance", desc := "(II)I" } : Jvm.MethodName) prog_1_method_11_code (3 : Nat) (Option.some Jvm.ClassFile.FieldType.int)) ∈ wT := mem_wT (tb2 (List.mem_of_getElem? (i := 200) rfl)) rfl
theorem t_443 : (Jvm.Cond.instanceMethod ({ cls := "DeficitNet", name := "waiting", desc := "(II)I" } : Jvm.MethodName)) ∈ wT := mem_wT (tb2 (List.mem_of_getElem? (i := 203) rfl)) rfl
theorem t_444 : (Jvm.Cond.selects "DeficitNet" ({ cls := "DeficitNet", name := "waiting", desc := "(II)I" } : Jvm.MethodName) ({ cls := "DeficitNet", name := "waiting", desc := "(II)I" } : Jvm.MethodName)) ∈ wT := mem_wT (tb2 (List.mem_of_getElem? (i := 204) rfl)) rfl
theorem t_445 : (Jvm.Cond.code ({ cls := "DeficitNet", name := "waiting", desc := "(II)I" } : Jvm.MethodName) prog_1_method_13_code (3 : Nat) (Option.some Jvm.ClassFile.FieldType.int)) ∈ wT := mem_wT (tb2 (List.mem_of_getElem? (i := 205) rfl)) rfl
theorem t_447 : (Jvm.Cond.instanceMethod ({ cls := "DeficitNet", name := "deficit", desc := "(II)I" } : Jvm.MethodName)) ∈ wT := mem_wT (tb2 (List.mem_of_getElem? (i := 207) rfl)) rfl
theorem t_448 : (Jvm.Cond.selects "DeficitNet" ({ cls := "DeficitNet", name := "deficit", desc := "(II)I" } : Jvm.MethodName) ({ cls := "DeficitNet", name := "deficit", desc := "(II)I" } : Jvm.MethodName)) ∈ wT := mem_wT (tb2 (List.mem_of_getElem? (i := 208) rfl)) rfl
theorem t_449 : (Jvm.Cond.code ({ cls := "DeficitNet", name := "deficit", desc := "(II)I" } : Jvm.MethodName) prog_1_method_14_code (3 : Nat) (Option.some Jvm.ClassFile.FieldType.int)) ∈ wT := mem_wT (tb2 (List.mem_of_getElem? (i := 209) rfl)) rfl
theorem t_451 : (Jvm.Cond.instanceMethod ({ cls := "DeficitNet", name := "onPort", desc := "(I)I" } : Jvm.MethodName)) ∈ wT := mem_wT (tb2 (List.mem_of_getElem? (i := 211) rfl)) rfl
theorem t_452 : (Jvm.Cond.selects "DeficitNet" ({ cls := "DeficitNet", name := "onPort", desc := "(I)I" } : Jvm.MethodName) ({ cls := "DeficitNet", name := "onPort", desc := "(I)I" } : Jvm.MethodName)) ∈ wT := mem_wT (tb2 (List.mem_of_getElem? (i := 212) rfl)) rfl
theorem t_453 : (Jvm.Cond.code ({ cls := "DeficitNet", name := "onPort", desc := "(I)I" } : Jvm.MethodName) prog_1_method_15_code (3 : Nat) (Option.some Jvm.ClassFile.FieldType.int)) ∈ wT := mem_wT (tb2 (List.mem_of_getElem? (i := 213) rfl)) rfl
theorem t_455 : (Jvm.Cond.instanceMethod ({ cls := "DeficitNet", name := "timer", desc := "(I)I" } : Jvm.MethodName)) ∈ wT := mem_wT (tb2 (List.mem_of_getElem? (i := 215) rfl)) rfl
theorem t_456 : (Jvm.Cond.selects "DeficitNet" ({ cls := "DeficitNet", name := "timer", desc := "(I)I" } : Jvm.MethodName) ({ cls := "DeficitNet", name := "timer", desc := "(I)I" } : Jvm.MethodName)) ∈ wT := mem_wT (tb2 (List.mem_of_getElem? (i := 216) rfl)) rfl
theorem t_457 : (Jvm.Cond.code ({ cls := "DeficitNet", name := "timer", desc := "(I)I" } : Jvm.MethodName) prog_1_method_16_code (2 : Nat) (Option.some Jvm.ClassFile.FieldType.int)) ∈ wT := mem_wT (tb2 (List.mem_of_getElem? (i := 217) rfl)) rfl
theorem t_459 : (Jvm.Cond.instanceMethod ({ cls := "DeficitNet", name := "count", desc := "(II)I" } : Jvm.MethodName)) ∈ wT := mem_wT (tb2 (List.mem_of_getElem? (i := 219) rfl)) rfl
theorem t_460 : (Jvm.Cond.selects "DeficitNet" ({ cls := "DeficitNet", name := "count", desc := "(II)I" } : Jvm.MethodName) ({ cls := "DeficitNet", name := "count", desc := "(II)I" } : Jvm.MethodName)) ∈ wT := mem_wT (tb2 (List.mem_of_getElem? (i := 220) rfl)) rfl
theorem t_461 : (Jvm.Cond.code ({ cls := "DeficitNet", name := "count", desc := "(II)I" } : Jvm.MethodName) prog_1_method_17_code (3 : Nat) (Option.some Jvm.ClassFile.FieldType.int)) ∈ wT := mem_wT (tb2 (List.mem_of_getElem? (i := 221) rfl)) rfl
theorem t_469 : (Jvm.Cond.instanceMethod ({ cls := "DeficitNetModel", name := "clear", desc := "()V" } : Jvm.MethodName)) ∈ wT := mem_wT (tb2 (List.mem_of_getElem? (i := 229) rfl)) rfl
theorem t_470 : (Jvm.Cond.selects "DeficitNetModel" ({ cls := "DeficitNetModel", name := "clear", desc := "()V" } : Jvm.MethodName) ({ cls := "DeficitNetModel", name := "clear", desc := "()V" } : Jvm.MethodName)) ∈ wT := mem_wT (tb2 (List.mem_of_getElem? (i := 230) rfl)) rfl
theorem t_471 : (Jvm.Cond.code ({ cls := "DeficitNetModel", name := "clear", desc := "()V" } : Jvm.MethodName) prog_7_method_2_code (2 : Nat) (Option.none : Option Jvm.ClassFile.FieldType)) ∈ wT := mem_wT (tb2 (List.mem_of_getElem? (i := 231) rfl)) rfl
theorem t_472 : (Jvm.Cond.methodLink "DeficitNetModel" (137 : Nat) ({ cls := "DeficitNetModel", name := "measure", desc := "()V" } : Jvm.MethodName)) ∈ wT := mem_wT (tb2 (List.mem_of_getElem? (i := 232) rfl)) rfl
theorem t_474 : (Jvm.Cond.instanceMethod ({ cls := "DeficitNetModel", name := "measure", desc := "()V" } : Jvm.MethodName)) ∈ wT := mem_wT (tb2 (List.mem_of_getElem? (i := 234) rfl)) rfl
theorem t_475 : (Jvm.Cond.code ({ cls := "DeficitNetModel", name := "measure", desc := "()V" } : Jvm.MethodName) prog_7_method_12_code (4 : Nat) (Option.none : Option Jvm.ClassFile.FieldType)) ∈ wT := mem_wT (tb2 (List.mem_of_getElem? (i := 235) rfl)) rfl
theorem t_476 : (Jvm.Cond.constant "DeficitNetModel" (154 : Nat) (1000000 : Int32)) ∈ wT := mem_wT (tb2 (List.mem_of_getElem? (i := 236) rfl)) rfl
theorem t_477 : (Jvm.Cond.methodLink "DeficitNetModel" (155 : Nat) ({ cls := "DeficitNetModel", name := "lesser", desc := "(II)I" } : Jvm.MethodName)) ∈ wT := mem_wT (tb2 (List.mem_of_getElem? (i := 237) rfl)) rfl
theorem t_478 : (Jvm.Cond.static ({ cls := "DeficitNetModel", name := "lesser", desc := "(II)I" } : Jvm.MethodName)) ∈ wT := mem_wT (tb2 (List.mem_of_getElem? (i := 238) rfl)) rfl
theorem t_479 : (Jvm.Cond.code ({ cls := "DeficitNetModel", name := "lesser", desc := "(II)I" } : Jvm.MethodName) prog_7_method_11_code (2 : Nat) (Option.some Jvm.ClassFile.FieldType.int)) ∈ wT := mem_wT (tb2 (List.mem_of_getElem? (i := 239) rfl)) rfl
theorem t_480 : (Jvm.Cond.fieldLink "DeficitNetModel" (117 : Nat) "DeficitNetModel" "links" "I") ∈ wT := mem_wT (tb3 (List.mem_of_getElem? (i := 0) rfl)) rfl
theorem t_481 : (Jvm.Cond.fieldLink "DeficitNetModel" (7 : Nat) "DeficitNetModel" "first" "[I") ∈ wT := mem_wT (tb3 (List.mem_of_getElem? (i := 1) rfl)) rfl
theorem t_482 : (Jvm.Cond.fieldLink "DeficitNetModel" (13 : Nat) "DeficitNetModel" "second" "[I") ∈ wT := mem_wT (tb3 (List.mem_of_getElem? (i := 2) rfl)) rfl
theorem t_483 : (Jvm.Cond.fieldLink "DeficitNetModel" (16 : Nat) "DeficitNetModel" "cost" "[I") ∈ wT := mem_wT (tb3 (List.mem_of_getElem? (i := 3) rfl)) rfl
theorem t_484 : (Jvm.Cond.fieldLink "DeficitNetModel" (19 : Nat) "DeficitNetModel" "slow" "[I") ∈ wT := mem_wT (tb3 (List.mem_of_getElem? (i := 4) rfl)) rfl
theorem t_485 : (Jvm.Cond.fieldLink "DeficitNetModel" (22 : Nat) "DeficitNetModel" "delay" "[I") ∈ wT := mem_wT (tb3 (List.mem_of_getElem? (i := 5) rfl)) rfl
theorem t_486 : (Jvm.Cond.fieldLink "DeficitNetModel" (25 : Nat) "DeficitNetModel" "quantum" "[I") ∈ wT := mem_wT (tb3 (List.mem_of_getElem? (i := 6) rfl)) rfl
theorem t_487 : (Jvm.Cond.fieldLink "DeficitNetModel" (28 : Nat) "DeficitNetModel" "room" "[I") ∈ wT := mem_wT (tb3 (List.mem_of_getElem? (i := 7) rfl)) rfl
theorem t_488 : (Jvm.Cond.fieldLink "DeficitNetModel" (31 : Nat) "DeficitNetModel" "far" "[I") ∈ wT := mem_wT (tb3 (List.mem_of_getElem? (i := 8) rfl)) rfl
theorem t_489 : (Jvm.Cond.fieldLink "DeficitNetModel" (121 : Nat) "DeficitNetModel" "flows" "I") ∈ wT := mem_wT (tb3 (List.mem_of_getElem? (i := 9) rfl)) rfl
theorem t_490 : (Jvm.Cond.fieldLink "DeficitNetModel" (34 : Nat) "DeficitNetModel" "source" "[I") ∈ wT := mem_wT (tb3 (List.mem_of_getElem? (i := 10) rfl)) rfl
theorem t_491 : (Jvm.Cond.fieldLink "DeficitNetModel" (37 : Nat) "DeficitNetModel" "sink" "[I") ∈ wT := mem_wT (tb3 (List.mem_of_getElem? (i := 11) rfl)) rfl
theorem t_492 : (Jvm.Cond.fieldLink "DeficitNetModel" (40 : Nat) "DeficitNetModel" "all" "[I") ∈ wT := mem_wT (tb3 (List.mem_of_getElem? (i := 12) rfl)) rfl
theorem t_493 : (Jvm.Cond.fieldLink "DeficitNetModel" (43 : Nat) "DeficitNetModel" "large" "[I") ∈ wT := mem_wT (tb3 (List.mem_of_getElem? (i := 13) rfl)) rfl
theorem t_494 : (Jvm.Cond.fieldLink "DeficitNetModel" (46 : Nat) "DeficitNetModel" "window" "[I") ∈ wT := mem_wT (tb3 (List.mem_of_getElem? (i := 14) rfl)) rfl
theorem t_495 : (Jvm.Cond.fieldLink "DeficitNetModel" (49 : Nat) "DeficitNetModel" "patience" "[I") ∈ wT := mem_wT (tb3 (List.mem_of_getElem? (i := 15) rfl)) rfl
theorem t_496 : (Jvm.Cond.fieldLink "DeficitNetModel" (52 : Nat) "DeficitNetModel" "birth" "[I") ∈ wT := mem_wT (tb3 (List.mem_of_getElem? (i := 16) rfl)) rfl
theorem t_497 : (Jvm.Cond.fieldLink "DeficitNetModel" (55 : Nat) "DeficitNetModel" "base" "[I") ∈ wT := mem_wT (tb3 (List.mem_of_getElem? (i := 17) rfl)) rfl
theorem t_498 : (Jvm.Cond.fieldLink "DeficitNetModel" (58 : Nat) "DeficitNetModel" "next" "[I") ∈ wT := mem_wT (tb3 (List.mem_of_getElem? (i := 18) rfl)) rfl
theorem t_499 : (Jvm.Cond.fieldLink "DeficitNetModel" (61 : Nat) "DeficitNetModel" "expected" "[I") ∈ wT := mem_wT (tb3 (List.mem_of_getElem? (i := 19) rfl)) rfl
theorem t_500 : (Jvm.Cond.fieldLink "DeficitNetModel" (64 : Nat) "DeficitNetModel" "start" "[I") ∈ wT := mem_wT (tb3 (List.mem_of_getElem? (i := 20) rfl)) rfl
theorem t_501 : (Jvm.Cond.fieldLink "DeficitNetModel" (67 : Nat) "DeficitNetModel" "startTurn" "[I") ∈ wT := mem_wT (tb3 (List.mem_of_getElem? (i := 21) rfl)) rfl
theorem t_502 : (Jvm.Cond.fieldLink "DeficitNetModel" (70 : Nat) "DeficitNetModel" "timeout" "[I") ∈ wT := mem_wT (tb3 (List.mem_of_getElem? (i := 22) rfl)) rfl
theorem t_503 : (Jvm.Cond.fieldLink "DeficitNetModel" (73 : Nat) "DeficitNetModel" "timeoutTurn" "[I") ∈ wT := mem_wT (tb3 (List.mem_of_getElem? (i := 23) rfl)) rfl
theorem t_504 : (Jvm.Cond.fieldLink "DeficitNetModel" (76 : Nat) "DeficitNetModel" "tally" "[I") ∈ wT := mem_wT (tb3 (List.mem_of_getElem? (i := 24) rfl)) rfl
theorem t_505 : (Jvm.Cond.fieldLink "DeficitNetModel" (79 : Nat) "DeficitNetModel" "state" "[I") ∈ wT := mem_wT (tb3 (List.mem_of_getElem? (i := 25) rfl)) rfl
theorem t_506 : (Jvm.Cond.fieldLink "DeficitNetModel" (82 : Nat) "DeficitNetModel" "of" "[I") ∈ wT := mem_wT (tb3 (List.mem_of_getElem? (i := 26) rfl)) rfl
theorem t_507 : (Jvm.Cond.fieldLink "DeficitNetModel" (85 : Nat) "DeficitNetModel" "number" "[I") ∈ wT := mem_wT (tb3 (List.mem_of_getElem? (i := 27) rfl)) rfl
theorem t_508 : (Jvm.Cond.fieldLink "DeficitNetModel" (88 : Nat) "DeficitNetModel" "answer" "[Z") ∈ wT := mem_wT (tb3 (List.mem_of_getElem? (i := 28) rfl)) rfl
theorem t_509 : (Jvm.Cond.fieldLink "DeficitNetModel" (92 : Nat) "DeficitNetModel" "port" "[I") ∈ wT := mem_wT (tb3 (List.mem_of_getElem? (i := 29) rfl)) rfl
theorem t_510 : (Jvm.Cond.fieldLink "DeficitNetModel" (95 : Nat) "DeficitNetModel" "tick" "[I") ∈ wT := mem_wT (tb3 (List.mem_of_getElem? (i := 30) rfl)) rfl
theorem t_511 : (Jvm.Cond.fieldLink "DeficitNetModel" (98 : Nat) "DeficitNetModel" "turn" "[I") ∈ wT := mem_wT (tb3 (List.mem_of_getElem? (i := 31) rfl)) rfl
theorem t_512 : (Jvm.Cond.fieldLink "DeficitNetModel" (101 : Nat) "DeficitNetModel" "came" "[I") ∈ wT := mem_wT (tb3 (List.mem_of_getElem? (i := 32) rfl)) rfl
theorem t_513 : (Jvm.Cond.fieldLink "DeficitNetModel" (104 : Nat) "DeficitNetModel" "deficit" "[I") ∈ wT := mem_wT (tb3 (List.mem_of_getElem? (i := 33) rfl)) rfl
theorem t_514 : (Jvm.Cond.fieldLink "DeficitNetModel" (107 : Nat) "DeficitNetModel" "served" "[Z") ∈ wT := mem_wT (tb3 (List.mem_of_getElem? (i := 34) rfl)) rfl
theorem t_515 : (Jvm.Cond.fieldLink "DeficitNetModel" (124 : Nat) "DeficitNetModel" "begun" "Z") ∈ wT := mem_wT (tb3 (List.mem_of_getElem? (i := 35) rfl)) rfl
theorem t_516 : (Jvm.Cond.fieldLink "DeficitNetModel" (128 : Nat) "DeficitNetModel" "now" "I") ∈ wT := mem_wT (tb3 (List.mem_of_getElem? (i := 36) rfl)) rfl
theorem t_517 : (Jvm.Cond.fieldLink "DeficitNetModel" (131 : Nat) "DeficitNetModel" "turns" "I") ∈ wT := mem_wT (tb3 (List.mem_of_getElem? (i := 37) rfl)) rfl
theorem t_518 : (Jvm.Cond.fieldLink "DeficitNetModel" (134 : Nat) "DeficitNetModel" "events" "I") ∈ wT := mem_wT (tb3 (List.mem_of_getElem? (i := 38) rfl)) rfl
theorem t_519 : (Jvm.Cond.fieldLink "DeficitNetModel" (110 : Nat) "DeficitNetModel" "latest" "[J") ∈ wT := mem_wT (tb3 (List.mem_of_getElem? (i := 39) rfl)) rfl
theorem t_520 : (Jvm.Cond.lays "DeficitNetModel" "DeficitNetModel" "links" "I") ∈ wT := mem_wT (tb3 (List.mem_of_getElem? (i := 40) rfl)) rfl
theorem t_522 : (Jvm.Cond.laysFinal "DeficitNetModel" "DeficitNetModel" "first" "[I") ∈ wT := mem_wT (tb3 (List.mem_of_getElem? (i := 42) rfl)) rfl
theorem t_524 : (Jvm.Cond.laysFinal "DeficitNetModel" "DeficitNetModel" "second" "[I") ∈ wT := mem_wT (tb3 (List.mem_of_getElem? (i := 44) rfl)) rfl
theorem t_526 : (Jvm.Cond.laysFinal "DeficitNetModel" "DeficitNetModel" "cost" "[I") ∈ wT := mem_wT (tb3 (List.mem_of_getElem? (i := 46) rfl)) rfl
theorem t_528 : (Jvm.Cond.laysFinal "DeficitNetModel" "DeficitNetModel" "slow" "[I") ∈ wT := mem_wT (tb3 (List.mem_of_getElem? (i := 48) rfl)) rfl
theorem t_530 : (Jvm.Cond.laysFinal "DeficitNetModel" "DeficitNetModel" "delay" "[I") ∈ wT := mem_wT (tb3 (List.mem_of_getElem? (i := 50) rfl)) rfl
theorem t_532 : (Jvm.Cond.laysFinal "DeficitNetModel" "DeficitNetModel" "quantum" "[I") ∈ wT := mem_wT (tb3 (List.mem_of_getElem? (i := 52) rfl)) rfl
theorem t_534 : (Jvm.Cond.laysFinal "DeficitNetModel" "DeficitNetModel" "room" "[I") ∈ wT := mem_wT (tb3 (List.mem_of_getElem? (i := 54) rfl)) rfl
theorem t_536 : (Jvm.Cond.laysFinal "DeficitNetModel" "DeficitNetModel" "far" "[I") ∈ wT := mem_wT (tb3 (List.mem_of_getElem? (i := 56) rfl)) rfl
theorem t_538 : (Jvm.Cond.lays "DeficitNetModel" "DeficitNetModel" "flows" "I") ∈ wT := mem_wT (tb3 (List.mem_of_getElem? (i := 58) rfl)) rfl
theorem t_540 : (Jvm.Cond.laysFinal "DeficitNetModel" "DeficitNetModel" "source" "[I") ∈ wT := mem_wT (tb3 (List.mem_of_getElem? (i := 60) rfl)) rfl
theorem t_542 : (Jvm.Cond.laysFinal "DeficitNetModel" "DeficitNetModel" "sink" "[I") ∈ wT := mem_wT (tb3 (List.mem_of_getElem? (i := 62) rfl)) rfl
theorem t_544 : (Jvm.Cond.laysFinal "DeficitNetModel" "DeficitNetModel" "all" "[I") ∈ wT := mem_wT (tb3 (List.mem_of_getElem? (i := 64) rfl)) rfl
theorem t_546 : (Jvm.Cond.laysFinal "DeficitNetModel" "DeficitNetModel" "large" "[I") ∈ wT := mem_wT (tb3 (List.mem_of_getElem? (i := 66) rfl)) rfl
theorem t_548 : (Jvm.Cond.laysFinal "DeficitNetModel" "DeficitNetModel" "window" "[I") ∈ wT := mem_wT (tb3 (List.mem_of_getElem? (i := 68) rfl)) rfl
theorem t_550 : (Jvm.Cond.laysFinal "DeficitNetModel" "DeficitNetModel" "patience" "[I") ∈ wT := mem_wT (tb3 (List.mem_of_getElem? (i := 70) rfl)) rfl
theorem t_552 : (Jvm.Cond.laysFinal "DeficitNetModel" "DeficitNetModel" "birth" "[I") ∈ wT := mem_wT (tb3 (List.mem_of_getElem? (i := 72) rfl)) rfl
theorem t_554 : (Jvm.Cond.laysFinal "DeficitNetModel" "DeficitNetModel" "base" "[I") ∈ wT := mem_wT (tb3 (List.mem_of_getElem? (i := 74) rfl)) rfl
theorem t_556 : (Jvm.Cond.laysFinal "DeficitNetModel" "DeficitNetModel" "next" "[I") ∈ wT := mem_wT (tb3 (List.mem_of_getElem? (i := 76) rfl)) rfl
theorem t_558 : (Jvm.Cond.laysFinal "DeficitNetModel" "DeficitNetModel" "expected" "[I") ∈ wT := mem_wT (tb3 (List.mem_of_getElem? (i := 78) rfl)) rfl
theorem t_560 : (Jvm.Cond.laysFinal "DeficitNetModel" "DeficitNetModel" "start" "[I") ∈ wT := mem_wT (tb3 (List.mem_of_getElem? (i := 80) rfl)) rfl
theorem t_562 : (Jvm.Cond.laysFinal "DeficitNetModel" "DeficitNetModel" "startTurn" "[I") ∈ wT := mem_wT (tb3 (List.mem_of_getElem? (i := 82) rfl)) rfl
theorem t_564 : (Jvm.Cond.laysFinal "DeficitNetModel" "DeficitNetModel" "timeout" "[I") ∈ wT := mem_wT (tb3 (List.mem_of_getElem? (i := 84) rfl)) rfl
theorem t_566 : (Jvm.Cond.laysFinal "DeficitNetModel" "DeficitNetModel" "timeoutTurn" "[I") ∈ wT := mem_wT (tb3 (List.mem_of_getElem? (i := 86) rfl)) rfl
theorem t_568 : (Jvm.Cond.laysFinal "DeficitNetModel" "DeficitNetModel" "tally" "[I") ∈ wT := mem_wT (tb3 (List.mem_of_getElem? (i := 88) rfl)) rfl
theorem t_570 : (Jvm.Cond.laysFinal "DeficitNetModel" "DeficitNetModel" "state" "[I") ∈ wT := mem_wT (tb3 (List.mem_of_getElem? (i := 90) rfl)) rfl
theorem t_572 : (Jvm.Cond.laysFinal "DeficitNetModel" "DeficitNetModel" "of" "[I") ∈ wT := mem_wT (tb3 (List.mem_of_getElem? (i := 92) rfl)) rfl
theorem t_574 : (Jvm.Cond.laysFinal "DeficitNetModel" "DeficitNetModel" "number" "[I") ∈ wT := mem_wT (tb3 (List.mem_of_getElem? (i := 94) rfl)) rfl
theorem t_576 : (Jvm.Cond.laysFinal "DeficitNetModel" "DeficitNetModel" "answer" "[Z") ∈ wT := mem_wT (tb3 (List.mem_of_getElem? (i := 96) rfl)) rfl
theorem t_578 : (Jvm.Cond.laysFinal "DeficitNetModel" "DeficitNetModel" "port" "[I") ∈ wT := mem_wT (tb3 (List.mem_of_getElem? (i := 98) rfl)) rfl
theorem t_580 : (Jvm.Cond.laysFinal "DeficitNetModel" "DeficitNetModel" "tick" "[I") ∈ wT := mem_wT (tb3 (List.mem_of_getElem? (i := 100) rfl)) rfl
theorem t_582 : (Jvm.Cond.laysFinal "DeficitNetModel" "DeficitNetModel" "turn" "[I") ∈ wT := mem_wT (tb3 (List.mem_of_getElem? (i := 102) rfl)) rfl
theorem t_584 : (Jvm.Cond.laysFinal "DeficitNetModel" "DeficitNetModel" "came" "[I") ∈ wT := mem_wT (tb3 (List.mem_of_getElem? (i := 104) rfl)) rfl
theorem t_586 : (Jvm.Cond.laysFinal "DeficitNetModel" "DeficitNetModel" "deficit" "[I") ∈ wT := mem_wT (tb3 (List.mem_of_getElem? (i := 106) rfl)) rfl
theorem t_588 : (Jvm.Cond.laysFinal "DeficitNetModel" "DeficitNetModel" "served" "[Z") ∈ wT := mem_wT (tb3 (List.mem_of_getElem? (i := 108) rfl)) rfl
theorem t_590 : (Jvm.Cond.lays "DeficitNetModel" "DeficitNetModel" "begun" "Z") ∈ wT := mem_wT (tb3 (List.mem_of_getElem? (i := 110) rfl)) rfl
theorem t_592 : (Jvm.Cond.lays "DeficitNetModel" "DeficitNetModel" "now" "I") ∈ wT := mem_wT (tb3 (List.mem_of_getElem? (i := 112) rfl)) rfl
theorem t_594 : (Jvm.Cond.lays "DeficitNetModel" "DeficitNetModel" "turns" "I") ∈ wT := mem_wT (tb3 (List.mem_of_getElem? (i := 114) rfl)) rfl
theorem t_596 : (Jvm.Cond.lays "DeficitNetModel" "DeficitNetModel" "events" "I") ∈ wT := mem_wT (tb3 (List.mem_of_getElem? (i := 116) rfl)) rfl
theorem t_598 : (Jvm.Cond.laysFinal "DeficitNetModel" "DeficitNetModel" "latest" "[J") ∈ wT := mem_wT (tb3 (List.mem_of_getElem? (i := 118) rfl)) rfl
theorem t_604 : (Jvm.Cond.instanceMethod ({ cls := "DeficitNetModel", name := "link", desc := "(IIIII)I" } : Jvm.MethodName)) ∈ wT := mem_wT (tb3 (List.mem_of_getElem? (i := 124) rfl)) rfl
theorem t_605 : (Jvm.Cond.selects "DeficitNetModel" ({ cls := "DeficitNetModel", name := "link", desc := "(IIIII)I" } : Jvm.MethodName) ({ cls := "DeficitNetModel", name := "link", desc := "(IIIII)I" } : Jvm.MethodName)) ∈ wT := mem_wT (tb3 (List.mem_of_getElem? (i := 125) rfl)) rfl
theorem t_606 : (Jvm.Cond.code ({ cls := "DeficitNetModel", name := "link", desc := "(IIIII)I" } : Jvm.MethodName) prog_7_method_5_code (7 : Nat) (Option.some Jvm.ClassFile.FieldType.int)) ∈ wT := mem_wT (tb3 (List.mem_of_getElem? (i := 126) rfl)) rfl
theorem t_607 : (Jvm.Cond.methodLink "DeficitNetModel" (140 : Nat) ({ cls := "DeficitNetModel", name := "node", desc := "(I)Z" } : Jvm.MethodName)) ∈ wT := mem_wT (tb3 (List.mem_of_getElem? (i := 127) rfl)) rfl
theorem t_608 : (Jvm.Cond.static ({ cls := "DeficitNetModel", name := "node", desc := "(I)Z" } : Jvm.MethodName)) ∈ wT := mem_wT (tb3 (List.mem_of_getElem? (i := 128) rfl)) rfl
theorem t_609 : (Jvm.Cond.code ({ cls := "DeficitNetModel", name := "node", desc := "(I)Z" } : Jvm.MethodName) prog_7_method_3_code (1 : Nat) (Option.some Jvm.ClassFile.FieldType.boolean)) ∈ wT := mem_wT (tb3 (List.mem_of_getElem? (i := 129) rfl)) rfl
theorem t_610 : (Jvm.Cond.methodLink "DeficitNetModel" (144 : Nat) ({ cls := "DeficitNetModel", name := "within", desc := "(III)Z" } : Jvm.MethodName)) ∈ wT := mem_wT (tb3 (List.mem_of_getElem? (i := 130) rfl)) rfl
theorem t_611 : (Jvm.Cond.static ({ cls := "DeficitNetModel", name := "within", desc := "(III)Z" } : Jvm.MethodName)) ∈ wT := mem_wT (tb3 (List.mem_of_getElem? (i := 131) rfl)) rfl
theorem t_612 : (Jvm.Cond.code ({ cls := "DeficitNetModel", name := "within", desc := "(III)Z" } : Jvm.MethodName) prog_7_method_4_code (3 : Nat) (Option.some Jvm.ClassFile.FieldType.boolean)) ∈ wT := mem_wT (tb3 (List.mem_of_getElem? (i := 132) rfl)) rfl
theorem t_614 : (Jvm.Cond.instanceMethod ({ cls := "DeficitNetModel", name := "shape", desc := "(III)Z" } : Jvm.MethodName)) ∈ wT := mem_wT (tb3 (List.mem_of_getElem? (i := 134) rfl)) rfl
theorem t_615 : (Jvm.Cond.selects "DeficitNetModel" ({ cls := "DeficitNetModel", name := "shape", desc := "(III)Z" } : Jvm.MethodName) ({ cls := "DeficitNetModel", name := "shape", desc := "(III)Z" } : Jvm.MethodName)) ∈ wT := mem_wT (tb3 (List.mem_of_getElem? (i := 135) rfl)) rfl
theorem t_616 : (Jvm.Cond.code ({ cls := "DeficitNetModel", name := "shape", desc := "(III)Z" } : Jvm.MethodName) prog_7_method_8_code (4 : Nat) (Option.some Jvm.ClassFile.FieldType.boolean)) ∈ wT := mem_wT (tb3 (List.mem_of_getElem? (i := 136) rfl)) rfl
theorem t_617 : (Jvm.Cond.methodLink "DeficitNetModel" (148 : Nat) ({ cls := "DeficitNetModel", name := "isPort", desc := "(I)Z" } : Jvm.MethodName)) ∈ wT := mem_wT (tb3 (List.mem_of_getElem? (i := 137) rfl)) rfl
theorem t_619 : (Jvm.Cond.instanceMethod ({ cls := "DeficitNetModel", name := "isPort", desc := "(I)Z" } : Jvm.MethodName)) ∈ wT := mem_wT (tb3 (List.mem_of_getElem? (i := 139) rfl)) rfl
theorem t_620 : (Jvm.Cond.code ({ cls := "DeficitNetModel", name := "isPort", desc := "(I)Z" } : Jvm.MethodName) prog_7_method_6_code (2 : Nat) (Option.some Jvm.ClassFile.FieldType.boolean)) ∈ wT := mem_wT (tb3 (List.mem_of_getElem? (i := 140) rfl)) rfl
theorem t_622 : (Jvm.Cond.instanceMethod ({ cls := "DeficitNetModel", name := "flow", desc := "(IIII)I" } : Jvm.MethodName)) ∈ wT := mem_wT (tb3 (List.mem_of_getElem? (i := 142) rfl)) rfl
theorem t_623 : (Jvm.Cond.selects "DeficitNetModel" ({ cls := "DeficitNetModel", name := "flow", desc := "(IIII)I" } : Jvm.MethodName) ({ cls := "DeficitNetModel", name := "flow", desc := "(IIII)I" } : Jvm.MethodName)) ∈ wT := mem_wT (tb3 (List.mem_of_getElem? (i := 143) rfl)) rfl
theorem t_624 : (Jvm.Cond.code ({ cls := "DeficitNetModel", name := "flow", desc := "(IIII)I" } : Jvm.MethodName) prog_7_method_9_code (6 : Nat) (Option.some Jvm.ClassFile.FieldType.int)) ∈ wT := mem_wT (tb3 (List.mem_of_getElem? (i := 144) rfl)) rfl
theorem t_626 : (Jvm.Cond.instanceMethod ({ cls := "DeficitNetModel", name := "tune", desc := "(IIII)Z" } : Jvm.MethodName)) ∈ wT := mem_wT (tb3 (List.mem_of_getElem? (i := 146) rfl)) rfl
theorem t_627 : (Jvm.Cond.selects "DeficitNetModel" ({ cls := "DeficitNetModel", name := "tune", desc := "(IIII)Z" } : Jvm.MethodName) ({ cls := "DeficitNetModel", name := "tune", desc := "(IIII)Z" } : Jvm.MethodName)) ∈ wT := mem_wT (tb3 (List.mem_of_getElem? (i := 147) rfl)) rfl
theorem t_628 : (Jvm.Cond.code ({ cls := "DeficitNetModel", name := "tune", desc := "(IIII)Z" } : Jvm.MethodName) prog_7_method_10_code (5 : Nat) (Option.some Jvm.ClassFile.FieldType.boolean)) ∈ wT := mem_wT (tb3 (List.mem_of_getElem? (i := 148) rfl)) rfl
theorem t_629 : (Jvm.Cond.methodLink "DeficitNetModel" (151 : Nat) ({ cls := "DeficitNetModel", name := "isFlow", desc := "(I)Z" } : Jvm.MethodName)) ∈ wT := mem_wT (tb3 (List.mem_of_getElem? (i := 149) rfl)) rfl
theorem t_631 : (Jvm.Cond.instanceMethod ({ cls := "DeficitNetModel", name := "isFlow", desc := "(I)Z" } : Jvm.MethodName)) ∈ wT := mem_wT (tb3 (List.mem_of_getElem? (i := 151) rfl)) rfl
theorem t_632 : (Jvm.Cond.code ({ cls := "DeficitNetModel", name := "isFlow", desc := "(I)Z" } : Jvm.MethodName) prog_7_method_7_code (2 : Nat) (Option.some Jvm.ClassFile.FieldType.boolean)) ∈ wT := mem_wT (tb3 (List.mem_of_getElem? (i := 152) rfl)) rfl
theorem t_634 : (Jvm.Cond.instanceMethod ({ cls := "DeficitNetModel", name := "distance", desc := "(II)I" } : Jvm.MethodName)) ∈ wT := mem_wT (tb3 (List.mem_of_getElem? (i := 154) rfl)) rfl
theorem t_635 : (Jvm.Cond.selects "DeficitNetModel" ({ cls := "DeficitNetModel", name := "distance", desc := "(II)I" } : Jvm.MethodName) ({ cls := "DeficitNetModel", name := "distance", desc := "(II)I" } : Jvm.MethodName)) ∈ wT := mem_wT (tb3 (List.mem_of_getElem? (i := 155) rfl)) rfl
theorem t_636 : (Jvm.Cond.code ({ cls := "DeficitNetModel", name := "distance", desc := "(II)I" } : Jvm.MethodName) prog_7_method_13_code (3 : Nat) (Option.some Jvm.ClassFile.FieldType.int)) ∈ wT := mem_wT (tb3 (List.mem_of_getElem? (i := 156) rfl)) rfl
theorem t_638 : (Jvm.Cond.instanceMethod ({ cls := "DeficitNetModel", name := "way", desc := "(II)I" } : Jvm.MethodName)) ∈ wT := mem_wT (tb3 (List.mem_of_getElem? (i := 158) rfl)) rfl
theorem t_639 : (Jvm.Cond.selects "DeficitNetModel" ({ cls := "DeficitNetModel", name := "way", desc := "(II)I" } : Jvm.MethodName) ({ cls := "DeficitNetModel", name := "way", desc := "(II)I" } : Jvm.MethodName)) ∈ wT := mem_wT (tb3 (List.mem_of_getElem? (i := 159) rfl)) rfl
theorem t_640 : (Jvm.Cond.code ({ cls := "DeficitNetModel", name := "way", desc := "(II)I" } : Jvm.MethodName) prog_7_method_16_code (4 : Nat) (Option.some Jvm.ClassFile.FieldType.int)) ∈ wT := mem_wT (tb3 (List.mem_of_getElem? (i := 160) rfl)) rfl
theorem t_641 : (Jvm.Cond.methodLink "DeficitNetModel" (159 : Nat) ({ cls := "DeficitNetModel", name := "distance", desc := "(II)I" } : Jvm.MethodName)) ∈ wT := mem_wT (tb3 (List.mem_of_getElem? (i := 161) rfl)) rfl
theorem t_642 : (Jvm.Cond.methodLink "DeficitNetModel" (162 : Nat) ({ cls := "DeficitNetModel", name := "at", desc := "(I)I" } : Jvm.MethodName)) ∈ wT := mem_wT (tb3 (List.mem_of_getElem? (i := 162) rfl)) rfl
theorem t_644 : (Jvm.Cond.instanceMethod ({ cls := "DeficitNetModel", name := "at", desc := "(I)I" } : Jvm.MethodName)) ∈ wT := mem_wT (tb3 (List.mem_of_getElem? (i := 164) rfl)) rfl
theorem t_645 : (Jvm.Cond.code ({ cls := "DeficitNetModel", name := "at", desc := "(I)I" } : Jvm.MethodName) prog_7_method_14_code (2 : Nat) (Option.some Jvm.ClassFile.FieldType.int)) ∈ wT := mem_wT (tb3 (List.mem_of_getElem? (i := 165) rfl)) rfl
theorem t_646 : (Jvm.Cond.methodLink "DeficitNetModel" (166 : Nat) ({ cls := "DeficitNetModel", name := "leads", desc := "(I)I" } : Jvm.MethodName)) ∈ wT := mem_wT (tb3 (List.mem_of_getElem? (i := 166) rfl)) rfl
theorem t_648 : (Jvm.Cond.instanceMethod ({ cls := "DeficitNetModel", name := "leads", desc := "(I)I" } : Jvm.MethodName)) ∈ wT := mem_wT (tb3 (List.mem_of_getElem? (i := 168) rfl)) rfl
theorem t_649 : (Jvm.Cond.code ({ cls := "DeficitNetModel", name := "leads", desc := "(I)I" } : Jvm.MethodName) prog_7_method_15_code (2 : Nat) (Option.some Jvm.ClassFile.FieldType.int)) ∈ wT := mem_wT (tb3 (List.mem_of_getElem? (i := 169) rfl)) rfl
theorem t_651 : (Jvm.Cond.instanceMethod ({ cls := "DeficitNetModel", name := "step", desc := "()Z" } : Jvm.MethodName)) ∈ wT := mem_wT (tb3 (List.mem_of_getElem? (i := 171) rfl)) rfl
theorem t_652 : (Jvm.Cond.selects "DeficitNetModel" ({ cls := "DeficitNetModel", name := "step", desc := "()Z" } : Jvm.MethodName) ({ cls := "DeficitNetModel", name := "step", desc := "()Z" } : Jvm.MethodName)) ∈ wT := mem_wT (tb3 (List.mem_of_getElem? (i := 172) rfl)) rfl
theorem t_653 : (Jvm.Cond.code ({ cls := "DeficitNetModel", name := "step", desc := "()Z" } : Jvm.MethodName) prog_7_method_34_code (5 : Nat) (Option.some Jvm.ClassFile.FieldType.boolean)) ∈ wT := mem_wT (tb3 (List.mem_of_getElem? (i := 173) rfl)) rfl
theorem t_654 : (Jvm.Cond.methodLink "DeficitNetModel" (223 : Nat) ({ cls := "DeficitNetModel", name := "begin", desc := "()V" } : Jvm.MethodName)) ∈ wT := mem_wT (tb3 (List.mem_of_getElem? (i := 174) rfl)) rfl
theorem t_656 : (Jvm.Cond.instanceMethod ({ cls := "DeficitNetModel", name := "begin", desc := "()V" } : Jvm.MethodName)) ∈ wT := mem_wT (tb3 (List.mem_of_getElem? (i := 176) rfl)) rfl
theorem t_657 : (Jvm.Cond.code ({ cls := "DeficitNetModel", name := "begin", desc := "()V" } : Jvm.MethodName) prog_7_method_30_code (2 : Nat) (Option.none : Option Jvm.ClassFile.FieldType)) ∈ wT := mem_wT (tb3 (List.mem_of_getElem? (i := 177) rfl)) rfl
theorem t_658 : (Jvm.Cond.methodLink "DeficitNetModel" (226 : Nat) ({ cls := "DeficitNetModel", name := "soonest", desc := "()J" } : Jvm.MethodName)) ∈ wT := mem_wT (tb3 (List.mem_of_getElem? (i := 178) rfl)) rfl
theorem t_660 : (Jvm.Cond.instanceMethod ({ cls := "DeficitNetModel", name := "soonest", desc := "()J" } : Jvm.MethodName)) ∈ wT := mem_wT (tb3 (List.mem_of_getElem? (i := 180) rfl)) rfl
theorem t_661 : (Jvm.Cond.code ({ cls := "DeficitNetModel", name := "soonest", desc := "()J" } : Jvm.MethodName) prog_7_method_32_code (4 : Nat) (Option.some Jvm.ClassFile.FieldType.long)) ∈ wT := mem_wT (tb3 (List.mem_of_getElem? (i := 181) rfl)) rfl
theorem t_662 : (Jvm.Cond.methodLink "DeficitNetModel" (217 : Nat) ({ cls := "DeficitNetModel", name := "sooner", desc := "(JII)J" } : Jvm.MethodName)) ∈ wT := mem_wT (tb3 (List.mem_of_getElem? (i := 182) rfl)) rfl
theorem t_663 : (Jvm.Cond.static ({ cls := "DeficitNetModel", name := "sooner", desc := "(JII)J" } : Jvm.MethodName)) ∈ wT := mem_wT (tb3 (List.mem_of_getElem? (i := 183) rfl)) rfl
theorem t_664 : (Jvm.Cond.code ({ cls := "DeficitNetModel", name := "sooner", desc := "(JII)J" } : Jvm.MethodName) prog_7_method_33_code (6 : Nat) (Option.some Jvm.ClassFile.FieldType.long)) ∈ wT := mem_wT (tb3 (List.mem_of_getElem? (i := 184) rfl)) rfl
theorem t_665 : (Jvm.Cond.constantLong "DeficitNetModel" (221 : Nat) (4294967296 : Int64)) ∈ wT := mem_wT (tb3 (List.mem_of_getElem? (i := 185) rfl)) rfl
theorem t_666 : (Jvm.Cond.methodLink "DeficitNetModel" (230 : Nat) ({ cls := "DeficitNetModel", name := "note", desc := "(III)V" } : Jvm.MethodName)) ∈ wT := mem_wT (tb3 (List.mem_of_getElem? (i := 186) rfl)) rfl
theorem t_668 : (Jvm.Cond.instanceMethod ({ cls := "DeficitNetModel", name := "note", desc := "(III)V" } : Jvm.MethodName)) ∈ wT := mem_wT (tb3 (List.mem_of_getElem? (i := 188) rfl)) rfl
theorem t_669 : (Jvm.Cond.code ({ cls := "DeficitNetModel", name := "note", desc := "(III)V" } : Jvm.MethodName) prog_7_method_31_code (4 : Nat) (Option.none : Option Jvm.ClassFile.FieldType)) ∈ wT := mem_wT (tb3 (List.mem_of_getElem? (i := 189) rfl)) rfl
theorem t_670 : (Jvm.Cond.constantLong "DeficitNetModel" (211 : Nat) (1048576 : Int64)) ∈ wT := mem_wT (tb3 (List.mem_of_getElem? (i := 190) rfl)) rfl
theorem t_671 : (Jvm.Cond.constantLong "DeficitNetModel" (213 : Nat) (65536 : Int64)) ∈ wT := mem_wT (tb3 (List.mem_of_getElem? (i := 191) rfl)) rfl
theorem t_672 : (Jvm.Cond.constantLong "DeficitNetModel" (215 : Nat) (256 : Int64)) ∈ wT := mem_wT (tb3 (List.mem_of_getElem? (i := 192) rfl)) rfl
theorem t_673 : (Jvm.Cond.methodLink "DeficitNetModel" (208 : Nat) ({ cls := "DeficitNetModel", name := "fill", desc := "(I)V" } : Jvm.MethodName)) ∈ wT := mem_wT (tb3 (List.mem_of_getElem? (i := 193) rfl)) rfl
theorem t_675 : (Jvm.Cond.instanceMethod ({ cls := "DeficitNetModel", name := "fill", desc := "(I)V" } : Jvm.MethodName)) ∈ wT := mem_wT (tb3 (List.mem_of_getElem? (i := 195) rfl)) rfl
theorem t_676 : (Jvm.Cond.code ({ cls := "DeficitNetModel", name := "fill", desc := "(I)V" } : Jvm.MethodName) prog_7_method_28_code (3 : Nat) (Option.none : Option Jvm.ClassFile.FieldType)) ∈ wT := mem_wT (tb3 (List.mem_of_getElem? (i := 196) rfl)) rfl
theorem t_677 : (Jvm.Cond.methodLink "DeficitNetModel" (201 : Nat) ({ cls := "DeficitNetModel", name := "setTimeout", desc := "(I)V" } : Jvm.MethodName)) ∈ wT := mem_wT (tb3 (List.mem_of_getElem? (i := 197) rfl)) rfl
theorem t_679 : (Jvm.Cond.instanceMethod ({ cls := "DeficitNetModel", name := "setTimeout", desc := "(I)V" } : Jvm.MethodName)) ∈ wT := mem_wT (tb3 (List.mem_of_getElem? (i := 199) rfl)) rfl
theorem t_680 : (Jvm.Cond.code ({ cls := "DeficitNetModel", name := "setTimeout", desc := "(I)V" } : Jvm.MethodName) prog_7_method_27_code (2 : Nat) (Option.none : Option Jvm.ClassFile.FieldType)) ∈ wT := mem_wT (tb3 (List.mem_of_getElem? (i := 200) rfl)) rfl
theorem t_681 : (Jvm.Cond.methodLink "DeficitNetModel" (204 : Nat) ({ cls := "DeficitNetModel", name := "make", desc := "(IIZI)V" } : Jvm.MethodName)) ∈ wT := mem_wT (tb3 (List.mem_of_getElem? (i := 201) rfl)) rfl
theorem t_683 : (Jvm.Cond.instanceMethod ({ cls := "DeficitNetModel", name := "make", desc := "(IIZI)V" } : Jvm.MethodName)) ∈ wT := mem_wT (tb3 (List.mem_of_getElem? (i := 203) rfl)) rfl
theorem t_684 : (Jvm.Cond.code ({ cls := "DeficitNetModel", name := "make", desc := "(IIZI)V" } : Jvm.MethodName) prog_7_method_22_code (6 : Nat) (Option.none : Option Jvm.ClassFile.FieldType)) ∈ wT := mem_wT (tb3 (List.mem_of_getElem? (i := 204) rfl)) rfl
theorem t_685 : (Jvm.Cond.methodLink "DeficitNetModel" (169 : Nat) ({ cls := "DeficitNetModel", name := "put", desc := "(II)V" } : Jvm.MethodName)) ∈ wT := mem_wT (tb3 (List.mem_of_getElem? (i := 205) rfl)) rfl
theorem t_687 : (Jvm.Cond.instanceMethod ({ cls := "DeficitNetModel", name := "put", desc := "(II)V" } : Jvm.MethodName)) ∈ wT := mem_wT (tb3 (List.mem_of_getElem? (i := 207) rfl)) rfl
theorem t_688 : (Jvm.Cond.code ({ cls := "DeficitNetModel", name := "put", desc := "(II)V" } : Jvm.MethodName) prog_7_method_23_code (5 : Nat) (Option.none : Option Jvm.ClassFile.FieldType)) ∈ wT := mem_wT (tb3 (List.mem_of_getElem? (i := 208) rfl)) rfl
theorem t_689 : (Jvm.Cond.methodLink "DeficitNetModel" (173 : Nat) ({ cls := "DeficitNetModel", name := "endOf", desc := "(I)I" } : Jvm.MethodName)) ∈ wT := mem_wT (tb3 (List.mem_of_getElem? (i := 209) rfl)) rfl
theorem t_691 : (Jvm.Cond.instanceMethod ({ cls := "DeficitNetModel", name := "endOf", desc := "(I)I" } : Jvm.MethodName)) ∈ wT := mem_wT (tb3 (List.mem_of_getElem? (i := 211) rfl)) rfl
theorem t_692 : (Jvm.Cond.code ({ cls := "DeficitNetModel", name := "endOf", desc := "(I)I" } : Jvm.MethodName) prog_7_method_18_code (2 : Nat) (Option.some Jvm.ClassFile.FieldType.int)) ∈ wT := mem_wT (tb3 (List.mem_of_getElem? (i := 212) rfl)) rfl
theorem t_693 : (Jvm.Cond.methodLink "DeficitNetModel" (176 : Nat) ({ cls := "DeficitNetModel", name := "way", desc := "(II)I" } : Jvm.MethodName)) ∈ wT := mem_wT (tb3 (List.mem_of_getElem? (i := 213) rfl)) rfl
theorem t_694 : (Jvm.Cond.methodLink "DeficitNetModel" (179 : Nat) ({ cls := "DeficitNetModel", name := "queued", desc := "(II)I" } : Jvm.MethodName)) ∈ wT := mem_wT (tb3 (List.mem_of_getElem? (i := 214) rfl)) rfl
theorem t_696 : (Jvm.Cond.instanceMethod ({ cls := "DeficitNetModel", name := "queued", desc := "(II)I" } : Jvm.MethodName)) ∈ wT := mem_wT (tb3 (List.mem_of_getElem? (i := 216) rfl)) rfl
theorem t_697 : (Jvm.Cond.code ({ cls := "DeficitNetModel", name := "queued", desc := "(II)I" } : Jvm.MethodName) prog_7_method_19_code (5 : Nat) (Option.some Jvm.ClassFile.FieldType.int)) ∈ wT := mem_wT (tb3 (List.mem_of_getElem? (i := 217) rfl)) rfl
theorem t_698 : (Jvm.Cond.methodLink "DeficitNetModel" (182 : Nat) ({ cls := "DeficitNetModel", name := "lose", desc := "(I)V" } : Jvm.MethodName)) ∈ wT := mem_wT (tb3 (List.mem_of_getElem? (i := 218) rfl)) rfl
theorem t_700 : (Jvm.Cond.instanceMethod ({ cls := "DeficitNetModel", name := "lose", desc := "(I)V" } : Jvm.MethodName)) ∈ wT := mem_wT (tb3 (List.mem_of_getElem? (i := 220) rfl)) rfl
theorem t_701 : (Jvm.Cond.code ({ cls := "DeficitNetModel", name := "lose", desc := "(I)V" } : Jvm.MethodName) prog_7_method_21_code (2 : Nat) (Option.none : Option Jvm.ClassFile.FieldType)) ∈ wT := mem_wT (tb3 (List.mem_of_getElem? (i := 221) rfl)) rfl
theorem t_702 : (Jvm.Cond.methodLink "DeficitNetModel" (186 : Nat) ({ cls := "DeficitNetModel", name := "on", desc := "(I)I" } : Jvm.MethodName)) ∈ wT := mem_wT (tb3 (List.mem_of_getElem? (i := 222) rfl)) rfl
theorem t_704 : (Jvm.Cond.instanceMethod ({ cls := "DeficitNetModel", name := "on", desc := "(I)I" } : Jvm.MethodName)) ∈ wT := mem_wT (tb3 (List.mem_of_getElem? (i := 224) rfl)) rfl
theorem t_705 : (Jvm.Cond.code ({ cls := "DeficitNetModel", name := "on", desc := "(I)I" } : Jvm.MethodName) prog_7_method_20_code (4 : Nat) (Option.some Jvm.ClassFile.FieldType.int)) ∈ wT := mem_wT (tb3 (List.mem_of_getElem? (i := 225) rfl)) rfl
theorem t_706 : (Jvm.Cond.methodLink "DeficitNetModel" (189 : Nat) ({ cls := "DeficitNetModel", name := "choose", desc := "(I)V" } : Jvm.MethodName)) ∈ wT := mem_wT (tb3 (List.mem_of_getElem? (i := 226) rfl)) rfl
theorem t_708 : (Jvm.Cond.instanceMethod ({ cls := "DeficitNetModel", name := "choose", desc := "(I)V" } : Jvm.MethodName)) ∈ wT := mem_wT (tb3 (List.mem_of_getElem? (i := 228) rfl)) rfl
theorem t_709 : (Jvm.Cond.code ({ cls := "DeficitNetModel", name := "choose", desc := "(I)V" } : Jvm.MethodName) prog_7_method_26_code (6 : Nat) (Option.none : Option Jvm.ClassFile.FieldType)) ∈ wT := mem_wT (tb3 (List.mem_of_getElem? (i := 229) rfl)) rfl
theorem t_710 : (Jvm.Cond.methodLink "DeficitNetModel" (192 : Nat) ({ cls := "DeficitNetModel", name := "leader", desc := "(I)I" } : Jvm.MethodName)) ∈ wT := mem_wT (tb3 (List.mem_of_getElem? (i := 230) rfl)) rfl
theorem t_712 : (Jvm.Cond.instanceMethod ({ cls := "DeficitNetModel", name := "leader", desc := "(I)I" } : Jvm.MethodName)) ∈ wT := mem_wT (tb3 (List.mem_of_getElem? (i := 232) rfl)) rfl
theorem t_713 : (Jvm.Cond.code ({ cls := "DeficitNetModel", name := "leader", desc := "(I)I" } : Jvm.MethodName) prog_7_method_24_code (4 : Nat) (Option.some Jvm.ClassFile.FieldType.int)) ∈ wT := mem_wT (tb3 (List.mem_of_getElem? (i := 233) rfl)) rfl
theorem t_714 : (Jvm.Cond.methodLink "DeficitNetModel" (195 : Nat) ({ cls := "DeficitNetModel", name := "head", desc := "(II)I" } : Jvm.MethodName)) ∈ wT := mem_wT (tb3 (List.mem_of_getElem? (i := 234) rfl)) rfl
theorem t_716 : (Jvm.Cond.instanceMethod ({ cls := "DeficitNetModel", name := "head", desc := "(II)I" } : Jvm.MethodName)) ∈ wT := mem_wT (tb3 (List.mem_of_getElem? (i := 236) rfl)) rfl
theorem t_717 : (Jvm.Cond.code ({ cls := "DeficitNetModel", name := "head", desc := "(II)I" } : Jvm.MethodName) prog_7_method_25_code (5 : Nat) (Option.some Jvm.ClassFile.FieldType.int)) ∈ wT := mem_wT (tb3 (List.mem_of_getElem? (i := 237) rfl)) rfl
theorem t_718 : (Jvm.Cond.methodLink "DeficitNetModel" (198 : Nat) ({ cls := "DeficitNetModel", name := "sizeOf", desc := "(I)I" } : Jvm.MethodName)) ∈ wT := mem_wT (tb3 (List.mem_of_getElem? (i := 238) rfl)) rfl
theorem t_720 : (Jvm.Cond.instanceMethod ({ cls := "DeficitNetModel", name := "sizeOf", desc := "(I)I" } : Jvm.MethodName)) ∈ wT := mem_wT (tb4 (List.mem_of_getElem? (i := 0) rfl)) rfl
theorem t_721 : (Jvm.Cond.code ({ cls := "DeficitNetModel", name := "sizeOf", desc := "(I)I" } : Jvm.MethodName) prog_7_method_17_code (2 : Nat) (Option.some Jvm.ClassFile.FieldType.int)) ∈ wT := mem_wT (tb4 (List.mem_of_getElem? (i := 1) rfl)) rfl
theorem t_722 : (Jvm.Cond.methodLink "DeficitNetModel" (234 : Nat) ({ cls := "DeficitNetModel", name := "moved", desc := "(I)V" } : Jvm.MethodName)) ∈ wT := mem_wT (tb4 (List.mem_of_getElem? (i := 2) rfl)) rfl
theorem t_724 : (Jvm.Cond.instanceMethod ({ cls := "DeficitNetModel", name := "moved", desc := "(I)V" } : Jvm.MethodName)) ∈ wT := mem_wT (tb4 (List.mem_of_getElem? (i := 4) rfl)) rfl
theorem t_725 : (Jvm.Cond.code ({ cls := "DeficitNetModel", name := "moved", desc := "(I)V" } : Jvm.MethodName) prog_7_method_35_code (4 : Nat) (Option.none : Option Jvm.ClassFile.FieldType)) ∈ wT := mem_wT (tb4 (List.mem_of_getElem? (i := 5) rfl)) rfl
theorem t_726 : (Jvm.Cond.methodLink "DeficitNetModel" (237 : Nat) ({ cls := "DeficitNetModel", name := "arrive", desc := "(I)V" } : Jvm.MethodName)) ∈ wT := mem_wT (tb4 (List.mem_of_getElem? (i := 6) rfl)) rfl
theorem t_728 : (Jvm.Cond.instanceMethod ({ cls := "DeficitNetModel", name := "arrive", desc := "(I)V" } : Jvm.MethodName)) ∈ wT := mem_wT (tb4 (List.mem_of_getElem? (i := 8) rfl)) rfl
theorem t_729 : (Jvm.Cond.code ({ cls := "DeficitNetModel", name := "arrive", desc := "(I)V" } : Jvm.MethodName) prog_7_method_29_code (5 : Nat) (Option.none : Option Jvm.ClassFile.FieldType)) ∈ wT := mem_wT (tb4 (List.mem_of_getElem? (i := 9) rfl)) rfl
theorem t_731 : (Jvm.Cond.instanceMethod ({ cls := "DeficitNetModel", name := "run", desc := "(I)I" } : Jvm.MethodName)) ∈ wT := mem_wT (tb4 (List.mem_of_getElem? (i := 11) rfl)) rfl
theorem t_732 : (Jvm.Cond.selects "DeficitNetModel" ({ cls := "DeficitNetModel", name := "run", desc := "(I)I" } : Jvm.MethodName) ({ cls := "DeficitNetModel", name := "run", desc := "(I)I" } : Jvm.MethodName)) ∈ wT := mem_wT (tb4 (List.mem_of_getElem? (i := 12) rfl)) rfl
theorem t_733 : (Jvm.Cond.code ({ cls := "DeficitNetModel", name := "run", desc := "(I)I" } : Jvm.MethodName) prog_7_method_36_code (3 : Nat) (Option.some Jvm.ClassFile.FieldType.int)) ∈ wT := mem_wT (tb4 (List.mem_of_getElem? (i := 13) rfl)) rfl
theorem t_734 : (Jvm.Cond.methodLink "DeficitNetModel" (240 : Nat) ({ cls := "DeficitNetModel", name := "step", desc := "()Z" } : Jvm.MethodName)) ∈ wT := mem_wT (tb4 (List.mem_of_getElem? (i := 14) rfl)) rfl
theorem t_736 : (Jvm.Cond.instanceMethod ({ cls := "DeficitNetModel", name := "now", desc := "()I" } : Jvm.MethodName)) ∈ wT := mem_wT (tb4 (List.mem_of_getElem? (i := 16) rfl)) rfl
theorem t_737 : (Jvm.Cond.selects "DeficitNetModel" ({ cls := "DeficitNetModel", name := "now", desc := "()I" } : Jvm.MethodName) ({ cls := "DeficitNetModel", name := "now", desc := "()I" } : Jvm.MethodName)) ∈ wT := mem_wT (tb4 (List.mem_of_getElem? (i := 17) rfl)) rfl
theorem t_738 : (Jvm.Cond.code ({ cls := "DeficitNetModel", name := "now", desc := "()I" } : Jvm.MethodName) prog_7_method_37_code (1 : Nat) (Option.some Jvm.ClassFile.FieldType.int)) ∈ wT := mem_wT (tb4 (List.mem_of_getElem? (i := 18) rfl)) rfl
theorem t_740 : (Jvm.Cond.instanceMethod ({ cls := "DeficitNetModel", name := "trace", desc := "(I)J" } : Jvm.MethodName)) ∈ wT := mem_wT (tb4 (List.mem_of_getElem? (i := 20) rfl)) rfl
theorem t_741 : (Jvm.Cond.selects "DeficitNetModel" ({ cls := "DeficitNetModel", name := "trace", desc := "(I)J" } : Jvm.MethodName) ({ cls := "DeficitNetModel", name := "trace", desc := "(I)J" } : Jvm.MethodName)) ∈ wT := mem_wT (tb4 (List.mem_of_getElem? (i := 21) rfl)) rfl
theorem t_742 : (Jvm.Cond.code ({ cls := "DeficitNetModel", name := "trace", desc := "(I)J" } : Jvm.MethodName) prog_7_method_38_code (2 : Nat) (Option.some Jvm.ClassFile.FieldType.long)) ∈ wT := mem_wT (tb4 (List.mem_of_getElem? (i := 22) rfl)) rfl
theorem t_743 : (Jvm.Cond.constantLong "DeficitNetModel" (244 : Nat) (-1 : Int64)) ∈ wT := mem_wT (tb4 (List.mem_of_getElem? (i := 23) rfl)) rfl
theorem t_745 : (Jvm.Cond.instanceMethod ({ cls := "DeficitNetModel", name := "waiting", desc := "(II)I" } : Jvm.MethodName)) ∈ wT := mem_wT (tb4 (List.mem_of_getElem? (i := 25) rfl)) rfl
theorem t_746 : (Jvm.Cond.selects "DeficitNetModel" ({ cls := "DeficitNetModel", name := "waiting", desc := "(II)I" } : Jvm.MethodName) ({ cls := "DeficitNetModel", name := "waiting", desc := "(II)I" } : Jvm.MethodName)) ∈ wT := mem_wT (tb4 (List.mem_of_getElem? (i := 26) rfl)) rfl
theorem t_747 : (Jvm.Cond.code ({ cls := "DeficitNetModel", name := "waiting", desc := "(II)I" } : Jvm.MethodName) prog_7_method_39_code (3 : Nat) (Option.some Jvm.ClassFile.FieldType.int)) ∈ wT := mem_wT (tb4 (List.mem_of_getElem? (i := 27) rfl)) rfl
theorem t_749 : (Jvm.Cond.instanceMethod ({ cls := "DeficitNetModel", name := "deficit", desc := "(II)I" } : Jvm.MethodName)) ∈ wT := mem_wT (tb4 (List.mem_of_getElem? (i := 29) rfl)) rfl
theorem t_750 : (Jvm.Cond.selects "DeficitNetModel" ({ cls := "DeficitNetModel", name := "deficit", desc := "(II)I" } : Jvm.MethodName) ({ cls := "DeficitNetModel", name := "deficit", desc := "(II)I" } : Jvm.MethodName)) ∈ wT := mem_wT (tb4 (List.mem_of_getElem? (i := 30) rfl)) rfl
theorem t_751 : (Jvm.Cond.code ({ cls := "DeficitNetModel", name := "deficit", desc := "(II)I" } : Jvm.MethodName) prog_7_method_40_code (3 : Nat) (Option.some Jvm.ClassFile.FieldType.int)) ∈ wT := mem_wT (tb4 (List.mem_of_getElem? (i := 31) rfl)) rfl
theorem t_753 : (Jvm.Cond.instanceMethod ({ cls := "DeficitNetModel", name := "onPort", desc := "(I)I" } : Jvm.MethodName)) ∈ wT := mem_wT (tb4 (List.mem_of_getElem? (i := 33) rfl)) rfl
theorem t_754 : (Jvm.Cond.selects "DeficitNetModel" ({ cls := "DeficitNetModel", name := "onPort", desc := "(I)I" } : Jvm.MethodName) ({ cls := "DeficitNetModel", name := "onPort", desc := "(I)I" } : Jvm.MethodName)) ∈ wT := mem_wT (tb4 (List.mem_of_getElem? (i := 34) rfl)) rfl
theorem t_755 : (Jvm.Cond.code ({ cls := "DeficitNetModel", name := "onPort", desc := "(I)I" } : Jvm.MethodName) prog_7_method_41_code (3 : Nat) (Option.some Jvm.ClassFile.FieldType.int)) ∈ wT := mem_wT (tb4 (List.mem_of_getElem? (i := 35) rfl)) rfl
theorem t_757 : (Jvm.Cond.instanceMethod ({ cls := "DeficitNetModel", name := "timer", desc := "(I)I" } : Jvm.MethodName)) ∈ wT := mem_wT (tb4 (List.mem_of_getElem? (i := 37) rfl)) rfl
theorem t_758 : (Jvm.Cond.selects "DeficitNetModel" ({ cls := "DeficitNetModel", name := "timer", desc := "(I)I" } : Jvm.MethodName) ({ cls := "DeficitNetModel", name := "timer", desc := "(I)I" } : Jvm.MethodName)) ∈ wT := mem_wT (tb4 (List.mem_of_getElem? (i := 38) rfl)) rfl
theorem t_759 : (Jvm.Cond.code ({ cls := "DeficitNetModel", name := "timer", desc := "(I)I" } : Jvm.MethodName) prog_7_method_42_code (2 : Nat) (Option.some Jvm.ClassFile.FieldType.int)) ∈ wT := mem_wT (tb4 (List.mem_of_getElem? (i := 39) rfl)) rfl
theorem t_761 : (Jvm.Cond.instanceMethod ({ cls := "DeficitNetModel", name := "count", desc := "(II)I" } : Jvm.MethodName)) ∈ wT := mem_wT (tb4 (List.mem_of_getElem? (i := 41) rfl)) rfl
theorem t_762 : (Jvm.Cond.selects "DeficitNetModel" ({ cls := "DeficitNetModel", name := "count", desc := "(II)I" } : Jvm.MethodName) ({ cls := "DeficitNetModel", name := "count", desc := "(II)I" } : Jvm.MethodName)) ∈ wT := mem_wT (tb4 (List.mem_of_getElem? (i := 42) rfl)) rfl
theorem t_763 : (Jvm.Cond.code ({ cls := "DeficitNetModel", name := "count", desc := "(II)I" } : Jvm.MethodName) prog_7_method_43_code (3 : Nat) (Option.some Jvm.ClassFile.FieldType.int)) ∈ wT := mem_wT (tb4 (List.mem_of_getElem? (i := 43) rfl)) rfl
theorem s_0 : Cond.selects "DeficitNet" ({ cls := "DeficitNet", name := "shortenOver", desc := "(III)V" } : Jvm.MethodName) ({ cls := "DeficitNet", name := "shortenOver", desc := "(III)V" } : Jvm.MethodName) ∈ wT := mem_wT (List.mem_append_left _ (List.mem_of_getElem? (i := 0) rfl)) rfl
theorem s_1 : Cond.selects "DeficitNet" ({ cls := "DeficitNet", name := "isPort", desc := "(I)Z" } : Jvm.MethodName) ({ cls := "DeficitNet", name := "isPort", desc := "(I)Z" } : Jvm.MethodName) ∈ wT := mem_wT (List.mem_append_left _ (List.mem_of_getElem? (i := 1) rfl)) rfl
theorem s_2 : Cond.selects "DeficitNet" ({ cls := "DeficitNet", name := "isFlow", desc := "(I)Z" } : Jvm.MethodName) ({ cls := "DeficitNet", name := "isFlow", desc := "(I)Z" } : Jvm.MethodName) ∈ wT := mem_wT (List.mem_append_left _ (List.mem_of_getElem? (i := 2) rfl)) rfl
theorem s_3 : Cond.selects "DeficitNet" ({ cls := "DeficitNet", name := "begin", desc := "()V" } : Jvm.MethodName) ({ cls := "DeficitNet", name := "begin", desc := "()V" } : Jvm.MethodName) ∈ wT := mem_wT (List.mem_append_left _ (List.mem_of_getElem? (i := 3) rfl)) rfl
theorem s_4 : Cond.selects "DeficitNet" ({ cls := "DeficitNet", name := "happen", desc := "()Z" } : Jvm.MethodName) ({ cls := "DeficitNet", name := "happen", desc := "()Z" } : Jvm.MethodName) ∈ wT := mem_wT (List.mem_append_left _ (List.mem_of_getElem? (i := 4) rfl)) rfl
theorem s_5 : Cond.selects "DeficitNet" ({ cls := "DeficitNet", name := "start", desc := "(I)V" } : Jvm.MethodName) ({ cls := "DeficitNet", name := "start", desc := "(I)V" } : Jvm.MethodName) ∈ wT := mem_wT (List.mem_append_left _ (List.mem_of_getElem? (i := 5) rfl)) rfl
theorem s_6 : Cond.selects "DeficitNet" ({ cls := "DeficitNet", name := "remember", desc := "(III)V" } : Jvm.MethodName) ({ cls := "DeficitNet", name := "remember", desc := "(III)V" } : Jvm.MethodName) ∈ wT := mem_wT (List.mem_append_left _ (List.mem_of_getElem? (i := 6) rfl)) rfl
theorem s_7 : Cond.selects "DeficitNet" ({ cls := "DeficitNet", name := "fill", desc := "(I)V" } : Jvm.MethodName) ({ cls := "DeficitNet", name := "fill", desc := "(I)V" } : Jvm.MethodName) ∈ wT := mem_wT (List.mem_append_left _ (List.mem_of_getElem? (i := 7) rfl)) rfl
theorem s_8 : Cond.selects "DeficitNet" ({ cls := "DeficitNet", name := "hasTimer", desc := "(I)Z" } : Jvm.MethodName) ({ cls := "DeficitNet", name := "hasTimer", desc := "(I)Z" } : Jvm.MethodName) ∈ wT := mem_wT (List.mem_append_left _ (List.mem_of_getElem? (i := 8) rfl)) rfl
theorem s_9 : Cond.selects "DeficitNet" ({ cls := "DeficitNet", name := "setTimer", desc := "(I)V" } : Jvm.MethodName) ({ cls := "DeficitNet", name := "setTimer", desc := "(I)V" } : Jvm.MethodName) ∈ wT := mem_wT (List.mem_append_left _ (List.mem_of_getElem? (i := 9) rfl)) rfl
theorem s_10 : Cond.selects "DeficitNet" ({ cls := "DeficitNet", name := "make", desc := "(IIZ)I" } : Jvm.MethodName) ({ cls := "DeficitNet", name := "make", desc := "(IIZ)I" } : Jvm.MethodName) ∈ wT := mem_wT (List.mem_append_left _ (List.mem_of_getElem? (i := 10) rfl)) rfl
theorem s_11 : Cond.selects "DeficitNet" ({ cls := "DeficitNet", name := "put", desc := "(II)V" } : Jvm.MethodName) ({ cls := "DeficitNet", name := "put", desc := "(II)V" } : Jvm.MethodName) ∈ wT := mem_wT (List.mem_append_left _ (List.mem_of_getElem? (i := 11) rfl)) rfl
theorem s_12 : Cond.selects "DeficitNet" ({ cls := "DeficitNet", name := "queuedOf", desc := "(LDeficitNet$Port;I)I" } : Jvm.MethodName) ({ cls := "DeficitNet", name := "queuedOf", desc := "(LDeficitNet$Port;I)I" } : Jvm.MethodName) ∈ wT := mem_wT (List.mem_append_left _ (List.mem_of_getElem? (i := 12) rfl)) rfl
theorem s_13 : Cond.selects "DeficitNet" ({ cls := "DeficitNet", name := "choose", desc := "(LDeficitNet$Port;)V" } : Jvm.MethodName) ({ cls := "DeficitNet", name := "choose", desc := "(LDeficitNet$Port;)V" } : Jvm.MethodName) ∈ wT := mem_wT (List.mem_append_left _ (List.mem_of_getElem? (i := 13) rfl)) rfl
theorem s_14 : Cond.selects "DeficitNet" ({ cls := "DeficitNet", name := "firstPlaceOf", desc := "(LDeficitNet$Port;I)I" } : Jvm.MethodName) ({ cls := "DeficitNet", name := "firstPlaceOf", desc := "(LDeficitNet$Port;I)I" } : Jvm.MethodName) ∈ wT := mem_wT (List.mem_append_left _ (List.mem_of_getElem? (i := 14) rfl)) rfl
theorem s_15 : Cond.selects "DeficitNet" ({ cls := "DeficitNet", name := "leave", desc := "(I)V" } : Jvm.MethodName) ({ cls := "DeficitNet", name := "leave", desc := "(I)V" } : Jvm.MethodName) ∈ wT := mem_wT (List.mem_append_left _ (List.mem_of_getElem? (i := 15) rfl)) rfl
theorem s_16 : Cond.selects "DeficitNet" ({ cls := "DeficitNet", name := "arrive", desc := "(I)V" } : Jvm.MethodName) ({ cls := "DeficitNet", name := "arrive", desc := "(I)V" } : Jvm.MethodName) ∈ wT := mem_wT (List.mem_append_left _ (List.mem_of_getElem? (i := 16) rfl)) rfl
theorem s_17 : Cond.selects "DeficitNet" ({ cls := "DeficitNet", name := "takeData", desc := "(II)V" } : Jvm.MethodName) ({ cls := "DeficitNet", name := "takeData", desc := "(II)V" } : Jvm.MethodName) ∈ wT := mem_wT (List.mem_append_left _ (List.mem_of_getElem? (i := 17) rfl)) rfl
theorem s_18 : Cond.selects "DeficitNet" ({ cls := "DeficitNet", name := "moveBase", desc := "(II)V" } : Jvm.MethodName) ({ cls := "DeficitNet", name := "moveBase", desc := "(II)V" } : Jvm.MethodName) ∈ wT := mem_wT (List.mem_append_left _ (List.mem_of_getElem? (i := 18) rfl)) rfl
theorem s_19 : Cond.selects "DeficitNet" ({ cls := "DeficitNet", name := "timeOut", desc := "(I)V" } : Jvm.MethodName) ({ cls := "DeficitNet", name := "timeOut", desc := "(I)V" } : Jvm.MethodName) ∈ wT := mem_wT (List.mem_append_left _ (List.mem_of_getElem? (i := 19) rfl)) rfl
theorem s_20 : Cond.selects "DeficitNetModel" ({ cls := "DeficitNetModel", name := "measure", desc := "()V" } : Jvm.MethodName) ({ cls := "DeficitNetModel", name := "measure", desc := "()V" } : Jvm.MethodName) ∈ wT := mem_wT (List.mem_append_left _ (List.mem_of_getElem? (i := 20) rfl)) rfl
theorem s_21 : Cond.selects "DeficitNetModel" ({ cls := "DeficitNetModel", name := "isPort", desc := "(I)Z" } : Jvm.MethodName) ({ cls := "DeficitNetModel", name := "isPort", desc := "(I)Z" } : Jvm.MethodName) ∈ wT := mem_wT (List.mem_append_left _ (List.mem_of_getElem? (i := 21) rfl)) rfl
theorem s_22 : Cond.selects "DeficitNetModel" ({ cls := "DeficitNetModel", name := "isFlow", desc := "(I)Z" } : Jvm.MethodName) ({ cls := "DeficitNetModel", name := "isFlow", desc := "(I)Z" } : Jvm.MethodName) ∈ wT := mem_wT (List.mem_append_left _ (List.mem_of_getElem? (i := 22) rfl)) rfl
theorem s_23 : Cond.selects "DeficitNetModel" ({ cls := "DeficitNetModel", name := "at", desc := "(I)I" } : Jvm.MethodName) ({ cls := "DeficitNetModel", name := "at", desc := "(I)I" } : Jvm.MethodName) ∈ wT := mem_wT (List.mem_append_left _ (List.mem_of_getElem? (i := 23) rfl)) rfl
theorem s_24 : Cond.selects "DeficitNetModel" ({ cls := "DeficitNetModel", name := "leads", desc := "(I)I" } : Jvm.MethodName) ({ cls := "DeficitNetModel", name := "leads", desc := "(I)I" } : Jvm.MethodName) ∈ wT := mem_wT (List.mem_append_left _ (List.mem_of_getElem? (i := 24) rfl)) rfl
theorem s_25 : Cond.selects "DeficitNetModel" ({ cls := "DeficitNetModel", name := "begin", desc := "()V" } : Jvm.MethodName) ({ cls := "DeficitNetModel", name := "begin", desc := "()V" } : Jvm.MethodName) ∈ wT := mem_wT (List.mem_append_left _ (List.mem_of_getElem? (i := 25) rfl)) rfl
theorem s_26 : Cond.selects "DeficitNetModel" ({ cls := "DeficitNetModel", name := "soonest", desc := "()J" } : Jvm.MethodName) ({ cls := "DeficitNetModel", name := "soonest", desc := "()J" } : Jvm.MethodName) ∈ wT := mem_wT (List.mem_append_left _ (List.mem_of_getElem? (i := 26) rfl)) rfl
theorem s_27 : Cond.selects "DeficitNetModel" ({ cls := "DeficitNetModel", name := "note", desc := "(III)V" } : Jvm.MethodName) ({ cls := "DeficitNetModel", name := "note", desc := "(III)V" } : Jvm.MethodName) ∈ wT := mem_wT (List.mem_append_left _ (List.mem_of_getElem? (i := 27) rfl)) rfl
theorem s_28 : Cond.selects "DeficitNetModel" ({ cls := "DeficitNetModel", name := "fill", desc := "(I)V" } : Jvm.MethodName) ({ cls := "DeficitNetModel", name := "fill", desc := "(I)V" } : Jvm.MethodName) ∈ wT := mem_wT (List.mem_append_left _ (List.mem_of_getElem? (i := 28) rfl)) rfl
theorem s_29 : Cond.selects "DeficitNetModel" ({ cls := "DeficitNetModel", name := "setTimeout", desc := "(I)V" } : Jvm.MethodName) ({ cls := "DeficitNetModel", name := "setTimeout", desc := "(I)V" } : Jvm.MethodName) ∈ wT := mem_wT (List.mem_append_left _ (List.mem_of_getElem? (i := 29) rfl)) rfl
theorem s_30 : Cond.selects "DeficitNetModel" ({ cls := "DeficitNetModel", name := "make", desc := "(IIZI)V" } : Jvm.MethodName) ({ cls := "DeficitNetModel", name := "make", desc := "(IIZI)V" } : Jvm.MethodName) ∈ wT := mem_wT (List.mem_append_left _ (List.mem_of_getElem? (i := 30) rfl)) rfl
theorem s_31 : Cond.selects "DeficitNetModel" ({ cls := "DeficitNetModel", name := "put", desc := "(II)V" } : Jvm.MethodName) ({ cls := "DeficitNetModel", name := "put", desc := "(II)V" } : Jvm.MethodName) ∈ wT := mem_wT (List.mem_append_left _ (List.mem_of_getElem? (i := 31) rfl)) rfl
theorem s_32 : Cond.selects "DeficitNetModel" ({ cls := "DeficitNetModel", name := "endOf", desc := "(I)I" } : Jvm.MethodName) ({ cls := "DeficitNetModel", name := "endOf", desc := "(I)I" } : Jvm.MethodName) ∈ wT := mem_wT (List.mem_append_left _ (List.mem_of_getElem? (i := 32) rfl)) rfl
theorem s_33 : Cond.selects "DeficitNetModel" ({ cls := "DeficitNetModel", name := "queued", desc := "(II)I" } : Jvm.MethodName) ({ cls := "DeficitNetModel", name := "queued", desc := "(II)I" } : Jvm.MethodName) ∈ wT := mem_wT (List.mem_append_left _ (List.mem_of_getElem? (i := 33) rfl)) rfl
theorem s_34 : Cond.selects "DeficitNetModel" ({ cls := "DeficitNetModel", name := "lose", desc := "(I)V" } : Jvm.MethodName) ({ cls := "DeficitNetModel", name := "lose", desc := "(I)V" } : Jvm.MethodName) ∈ wT := mem_wT (List.mem_append_left _ (List.mem_of_getElem? (i := 34) rfl)) rfl
theorem s_35 : Cond.selects "DeficitNetModel" ({ cls := "DeficitNetModel", name := "on", desc := "(I)I" } : Jvm.MethodName) ({ cls := "DeficitNetModel", name := "on", desc := "(I)I" } : Jvm.MethodName) ∈ wT := mem_wT (List.mem_append_left _ (List.mem_of_getElem? (i := 35) rfl)) rfl
theorem s_36 : Cond.selects "DeficitNetModel" ({ cls := "DeficitNetModel", name := "choose", desc := "(I)V" } : Jvm.MethodName) ({ cls := "DeficitNetModel", name := "choose", desc := "(I)V" } : Jvm.MethodName) ∈ wT := mem_wT (List.mem_append_left _ (List.mem_of_getElem? (i := 36) rfl)) rfl
theorem s_37 : Cond.selects "DeficitNetModel" ({ cls := "DeficitNetModel", name := "leader", desc := "(I)I" } : Jvm.MethodName) ({ cls := "DeficitNetModel", name := "leader", desc := "(I)I" } : Jvm.MethodName) ∈ wT := mem_wT (List.mem_append_left _ (List.mem_of_getElem? (i := 37) rfl)) rfl
theorem s_38 : Cond.selects "DeficitNetModel" ({ cls := "DeficitNetModel", name := "head", desc := "(II)I" } : Jvm.MethodName) ({ cls := "DeficitNetModel", name := "head", desc := "(II)I" } : Jvm.MethodName) ∈ wT := mem_wT (List.mem_append_left _ (List.mem_of_getElem? (i := 38) rfl)) rfl
theorem s_39 : Cond.selects "DeficitNetModel" ({ cls := "DeficitNetModel", name := "sizeOf", desc := "(I)I" } : Jvm.MethodName) ({ cls := "DeficitNetModel", name := "sizeOf", desc := "(I)I" } : Jvm.MethodName) ∈ wT := mem_wT (List.mem_append_left _ (List.mem_of_getElem? (i := 39) rfl)) rfl
theorem s_40 : Cond.selects "DeficitNetModel" ({ cls := "DeficitNetModel", name := "moved", desc := "(I)V" } : Jvm.MethodName) ({ cls := "DeficitNetModel", name := "moved", desc := "(I)V" } : Jvm.MethodName) ∈ wT := mem_wT (List.mem_append_left _ (List.mem_of_getElem? (i := 40) rfl)) rfl
theorem s_41 : Cond.selects "DeficitNetModel" ({ cls := "DeficitNetModel", name := "arrive", desc := "(I)V" } : Jvm.MethodName) ({ cls := "DeficitNetModel", name := "arrive", desc := "(I)V" } : Jvm.MethodName) ∈ wT := mem_wT (List.mem_append_left _ (List.mem_of_getElem? (i := 41) rfl)) rfl
end
section
def T_X : u_T := fun k => match k with
  | 0 => ("DeficitNet", "distances", "[[I", true)
  | 1 => ("DeficitNet", "ports", "[LDeficitNet$Port;", true)
  | 2 => ("DeficitNet", "flows", "[LDeficitNet$Flow;", true)
  | 3 => ("DeficitNet", "packets", "[LDeficitNet$Packet;", true)
  | 4 => ("DeficitNet", "agenda", "LDeficitNet$Agenda;", true)
  | 5 => ("DeficitNet", "latest", "[J", true)
  | 6 => ("DeficitNet", "linkCount", "I", false)
  | 7 => ("DeficitNet", "flowCount", "I", false)
  | 8 => ("DeficitNet", "nowTick", "I", false)
  | _ => ("DeficitNet", "begun", "Z", false)
def ty_X : Nat → FieldType := fun k => match k with
  | 0 => .array (.array .int)
  | 1 => .array (.object "DeficitNet$Port")
  | 2 => .array (.object "DeficitNet$Flow")
  | 3 => .array (.object "DeficitNet$Packet")
  | 4 => .object "DeficitNet$Agenda"
  | 5 => .array .long
  | 6 => .int
  | 7 => .int
  | 8 => .int
  | _ => .boolean
theorem nm_X : ∀ a, a < 10 → ∀ b, b < 10 → a ≠ b → (T_X a).2.1 ≠ (T_X b).2.1 := by decide +kernel
theorem tyok_X : ∀ k, k < 10 → parseFieldDescriptor (T_X k).2.2.1 = some (ty_X k) := by decide +kernel
set_option maxRecDepth 20000 in
theorem in0_X : ∀ w ∈ ([(Jvm.Cond.laysFinal "DeficitNet" "DeficitNet" "distances" "[[I"), (Jvm.Cond.laysFinal "DeficitNet" "DeficitNet" "ports" "[LDeficitNet$Port;"), (Jvm.Cond.laysFinal "DeficitNet" "DeficitNet" "flows" "[LDeficitNet$Flow;"), (Jvm.Cond.laysFinal "DeficitNet" "DeficitNet" "packets" "[LDeficitNet$Packet;"), (Jvm.Cond.laysFinal "DeficitNet" "DeficitNet" "agenda" "LDeficitNet$Agenda;"), (Jvm.Cond.laysFinal "DeficitNet" "DeficitNet" "latest" "[J"), (Jvm.Cond.lays "DeficitNet" "DeficitNet" "linkCount" "I"), (Jvm.Cond.lays "DeficitNet" "DeficitNet" "flowCount" "I"), (Jvm.Cond.lays "DeficitNet" "DeficitNet" "nowTick" "I"), (Jvm.Cond.lays "DeficitNet" "DeficitNet" "begun" "Z")] : List Cond), w ∈ wT := List.forall_mem_cons.mpr ⟨t_231, List.forall_mem_cons.mpr ⟨t_233, List.forall_mem_cons.mpr ⟨t_235, List.forall_mem_cons.mpr ⟨t_237, List.forall_mem_cons.mpr ⟨t_239, List.forall_mem_cons.mpr ⟨t_241, List.forall_mem_cons.mpr ⟨t_243, List.forall_mem_cons.mpr ⟨t_245, List.forall_mem_cons.mpr ⟨t_247, List.forall_mem_cons.mpr ⟨t_249, fun _ h => absurd h List.not_mem_nil⟩⟩⟩⟩⟩⟩⟩⟩⟩⟩
set_option maxRecDepth 20000 in
theorem in_X : ∀ w ∈ u_ws "DeficitNet" T_X 10, w ∈ wT := in0_X
def T_A : u_T := fun k => match k with
  | 0 => ("DeficitNet$Agenda", "kinds", "[I", true)
  | 1 => ("DeficitNet$Agenda", "ticks", "[I", true)
  | 2 => ("DeficitNet$Agenda", "turns", "[I", true)
  | _ => ("DeficitNet$Agenda", "turn", "I", false)
def ty_A : Nat → FieldType := fun k => match k with
  | 0 => .array .int
  | 1 => .array .int
  | 2 => .array .int
  | _ => .int
theorem nm_A : ∀ a, a < 4 → ∀ b, b < 4 → a ≠ b → (T_A a).2.1 ≠ (T_A b).2.1 := by decide +kernel
theorem tyok_A : ∀ k, k < 4 → parseFieldDescriptor (T_A k).2.2.1 = some (ty_A k) := by decide +kernel
set_option maxRecDepth 20000 in
theorem in0_A : ∀ w ∈ ([(Jvm.Cond.laysFinal "DeficitNet$Agenda" "DeficitNet$Agenda" "kinds" "[I"), (Jvm.Cond.laysFinal "DeficitNet$Agenda" "DeficitNet$Agenda" "ticks" "[I"), (Jvm.Cond.laysFinal "DeficitNet$Agenda" "DeficitNet$Agenda" "turns" "[I"), (Jvm.Cond.lays "DeficitNet$Agenda" "DeficitNet$Agenda" "turn" "I")] : List Cond), w ∈ wT := List.forall_mem_cons.mpr ⟨t_196, List.forall_mem_cons.mpr ⟨t_198, List.forall_mem_cons.mpr ⟨t_200, List.forall_mem_cons.mpr ⟨t_202, fun _ h => absurd h List.not_mem_nil⟩⟩⟩⟩
set_option maxRecDepth 20000 in
theorem in_A : ∀ w ∈ u_ws "DeficitNet$Agenda" T_A 4, w ∈ wT := in0_A
def T_F : u_T := fun k => match k with
  | 0 => ("DeficitNet$Flow", "source", "I", false)
  | 1 => ("DeficitNet$Flow", "sink", "I", false)
  | 2 => ("DeficitNet$Flow", "count", "I", false)
  | 3 => ("DeficitNet$Flow", "size", "I", false)
  | 4 => ("DeficitNet$Flow", "window", "I", false)
  | 5 => ("DeficitNet$Flow", "patience", "I", false)
  | 6 => ("DeficitNet$Flow", "birth", "I", false)
  | 7 => ("DeficitNet$Flow", "base", "I", false)
  | 8 => ("DeficitNet$Flow", "next", "I", false)
  | 9 => ("DeficitNet$Flow", "expected", "I", false)
  | 10 => ("DeficitNet$Flow", "made", "I", false)
  | 11 => ("DeficitNet$Flow", "arrived", "I", false)
  | 12 => ("DeficitNet$Flow", "lost", "I", false)
  | _ => ("DeficitNet$Flow", "timeouts", "I", false)
def ty_F : Nat → FieldType := fun k => match k with
  | 0 => .int
  | 1 => .int
  | 2 => .int
  | 3 => .int
  | 4 => .int
  | 5 => .int
  | 6 => .int
  | 7 => .int
  | 8 => .int
  | 9 => .int
  | 10 => .int
  | 11 => .int
  | 12 => .int
  | _ => .int
theorem nm_F : ∀ a, a < 14 → ∀ b, b < 14 → a ≠ b → (T_F a).2.1 ≠ (T_F b).2.1 := by decide +kernel
theorem tyok_F : ∀ k, k < 14 → parseFieldDescriptor (T_F k).2.2.1 = some (ty_F k) := by decide +kernel
set_option maxRecDepth 20000 in
theorem in0_F : ∀ w ∈ ([(Jvm.Cond.lays "DeficitNet$Flow" "DeficitNet$Flow" "source" "I"), (Jvm.Cond.lays "DeficitNet$Flow" "DeficitNet$Flow" "sink" "I"), (Jvm.Cond.lays "DeficitNet$Flow" "DeficitNet$Flow" "count" "I"), (Jvm.Cond.lays "DeficitNet$Flow" "DeficitNet$Flow" "size" "I"), (Jvm.Cond.lays "DeficitNet$Flow" "DeficitNet$Flow" "window" "I"), (Jvm.Cond.lays "DeficitNet$Flow" "DeficitNet$Flow" "patience" "I"), (Jvm.Cond.lays "DeficitNet$Flow" "DeficitNet$Flow" "birth" "I"), (Jvm.Cond.lays "DeficitNet$Flow" "DeficitNet$Flow" "base" "I"), (Jvm.Cond.lays "DeficitNet$Flow" "DeficitNet$Flow" "next" "I"), (Jvm.Cond.lays "DeficitNet$Flow" "DeficitNet$Flow" "expected" "I"), (Jvm.Cond.lays "DeficitNet$Flow" "DeficitNet$Flow" "made" "I"), (Jvm.Cond.lays "DeficitNet$Flow" "DeficitNet$Flow" "arrived" "I"), (Jvm.Cond.lays "DeficitNet$Flow" "DeficitNet$Flow" "lost" "I"), (Jvm.Cond.lays "DeficitNet$Flow" "DeficitNet$Flow" "timeouts" "I")] : List Cond), w ∈ wT := List.forall_mem_cons.mpr ⟨t_120, List.forall_mem_cons.mpr ⟨t_122, List.forall_mem_cons.mpr ⟨t_124, List.forall_mem_cons.mpr ⟨t_126, List.forall_mem_cons.mpr ⟨t_128, List.forall_mem_cons.mpr ⟨t_130, List.forall_mem_cons.mpr ⟨t_132, List.forall_mem_cons.mpr ⟨t_134, List.forall_mem_cons.mpr ⟨t_136, List.forall_mem_cons.mpr ⟨t_138, List.forall_mem_cons.mpr ⟨t_140, List.forall_mem_cons.mpr ⟨t_142, List.forall_mem_cons.mpr ⟨t_144, List.forall_mem_cons.mpr ⟨t_146, fun _ h => absurd h List.not_mem_nil⟩⟩⟩⟩⟩⟩⟩⟩⟩⟩⟩⟩⟩⟩
set_option maxRecDepth 20000 in
theorem in_F : ∀ w ∈ u_ws "DeficitNet$Flow" T_F 14, w ∈ wT := in0_F
def T_K : u_T := fun k => match k with
  | 0 => ("DeficitNet$Packet", "inNet", "Z", false)
  | 1 => ("DeficitNet$Packet", "isAnswer", "Z", false)
  | 2 => ("DeficitNet$Packet", "flow", "I", false)
  | 3 => ("DeficitNet$Packet", "number", "I", false)
  | 4 => ("DeficitNet$Packet", "size", "I", false)
  | 5 => ("DeficitNet$Packet", "end", "I", false)
  | _ => ("DeficitNet$Packet", "port", "I", false)
def ty_K : Nat → FieldType := fun k => match k with
  | 0 => .boolean
  | 1 => .boolean
  | 2 => .int
  | 3 => .int
  | 4 => .int
  | 5 => .int
  | _ => .int
theorem nm_K : ∀ a, a < 7 → ∀ b, b < 7 → a ≠ b → (T_K a).2.1 ≠ (T_K b).2.1 := by decide +kernel
theorem tyok_K : ∀ k, k < 7 → parseFieldDescriptor (T_K k).2.2.1 = some (ty_K k) := by decide +kernel
set_option maxRecDepth 20000 in
theorem in0_K : ∀ w ∈ ([(Jvm.Cond.lays "DeficitNet$Packet" "DeficitNet$Packet" "inNet" "Z"), (Jvm.Cond.lays "DeficitNet$Packet" "DeficitNet$Packet" "isAnswer" "Z"), (Jvm.Cond.lays "DeficitNet$Packet" "DeficitNet$Packet" "flow" "I"), (Jvm.Cond.lays "DeficitNet$Packet" "DeficitNet$Packet" "number" "I"), (Jvm.Cond.lays "DeficitNet$Packet" "DeficitNet$Packet" "size" "I"), (Jvm.Cond.lays "DeficitNet$Packet" "DeficitNet$Packet" "end" "I"), (Jvm.Cond.lays "DeficitNet$Packet" "DeficitNet$Packet" "port" "I")] : List Cond), w ∈ wT := List.forall_mem_cons.mpr ⟨t_169, List.forall_mem_cons.mpr ⟨t_171, List.forall_mem_cons.mpr ⟨t_173, List.forall_mem_cons.mpr ⟨t_175, List.forall_mem_cons.mpr ⟨t_177, List.forall_mem_cons.mpr ⟨t_179, List.forall_mem_cons.mpr ⟨t_181, fun _ h => absurd h List.not_mem_nil⟩⟩⟩⟩⟩⟩⟩
set_option maxRecDepth 20000 in
theorem in_K : ∀ w ∈ u_ws "DeficitNet$Packet" T_K 7, w ∈ wT := in0_K
def T_P : u_T := fun k => match k with
  | 0 => ("DeficitNet$Port", "from", "I", false)
  | 1 => ("DeficitNet$Port", "to", "I", false)
  | 2 => ("DeficitNet$Port", "cost", "I", false)
  | 3 => ("DeficitNet$Port", "slowness", "I", false)
  | 4 => ("DeficitNet$Port", "delay", "I", false)
  | 5 => ("DeficitNet$Port", "quantum", "I", false)
  | 6 => ("DeficitNet$Port", "room", "I", false)
  | 7 => ("DeficitNet$Port", "on", "I", false)
  | 8 => ("DeficitNet$Port", "queued", "I", false)
  | 9 => ("DeficitNet$Port", "listed", "I", false)
  | 10 => ("DeficitNet$Port", "firstIsServed", "Z", false)
  | 11 => ("DeficitNet$Port", "queue", "[I", true)
  | 12 => ("DeficitNet$Port", "list", "[I", true)
  | _ => ("DeficitNet$Port", "deficits", "[I", true)
def ty_P : Nat → FieldType := fun k => match k with
  | 0 => .int
  | 1 => .int
  | 2 => .int
  | 3 => .int
  | 4 => .int
  | 5 => .int
  | 6 => .int
  | 7 => .int
  | 8 => .int
  | 9 => .int
  | 10 => .boolean
  | 11 => .array .int
  | 12 => .array .int
  | _ => .array .int
theorem nm_P : ∀ a, a < 14 → ∀ b, b < 14 → a ≠ b → (T_P a).2.1 ≠ (T_P b).2.1 := by decide +kernel
theorem tyok_P : ∀ k, k < 14 → parseFieldDescriptor (T_P k).2.2.1 = some (ty_P k) := by decide +kernel
set_option maxRecDepth 20000 in
theorem in0_P : ∀ w ∈ ([(Jvm.Cond.lays "DeficitNet$Port" "DeficitNet$Port" "from" "I"), (Jvm.Cond.lays "DeficitNet$Port" "DeficitNet$Port" "to" "I"), (Jvm.Cond.lays "DeficitNet$Port" "DeficitNet$Port" "cost" "I"), (Jvm.Cond.lays "DeficitNet$Port" "DeficitNet$Port" "slowness" "I"), (Jvm.Cond.lays "DeficitNet$Port" "DeficitNet$Port" "delay" "I"), (Jvm.Cond.lays "DeficitNet$Port" "DeficitNet$Port" "quantum" "I"), (Jvm.Cond.lays "DeficitNet$Port" "DeficitNet$Port" "room" "I"), (Jvm.Cond.lays "DeficitNet$Port" "DeficitNet$Port" "on" "I"), (Jvm.Cond.lays "DeficitNet$Port" "DeficitNet$Port" "queued" "I"), (Jvm.Cond.lays "DeficitNet$Port" "DeficitNet$Port" "listed" "I"), (Jvm.Cond.lays "DeficitNet$Port" "DeficitNet$Port" "firstIsServed" "Z"), (Jvm.Cond.laysFinal "DeficitNet$Port" "DeficitNet$Port" "queue" "[I"), (Jvm.Cond.laysFinal "DeficitNet$Port" "DeficitNet$Port" "list" "[I"), (Jvm.Cond.laysFinal "DeficitNet$Port" "DeficitNet$Port" "deficits" "[I")] : List Cond), w ∈ wT := List.forall_mem_cons.mpr ⟨t_53, List.forall_mem_cons.mpr ⟨t_55, List.forall_mem_cons.mpr ⟨t_57, List.forall_mem_cons.mpr ⟨t_59, List.forall_mem_cons.mpr ⟨t_61, List.forall_mem_cons.mpr ⟨t_63, List.forall_mem_cons.mpr ⟨t_65, List.forall_mem_cons.mpr ⟨t_67, List.forall_mem_cons.mpr ⟨t_69, List.forall_mem_cons.mpr ⟨t_71, List.forall_mem_cons.mpr ⟨t_73, List.forall_mem_cons.mpr ⟨t_75, List.forall_mem_cons.mpr ⟨t_77, List.forall_mem_cons.mpr ⟨t_79, fun _ h => absurd h List.not_mem_nil⟩⟩⟩⟩⟩⟩⟩⟩⟩⟩⟩⟩⟩⟩
set_option maxRecDepth 20000 in
theorem in_P : ∀ w ∈ u_ws "DeficitNet$Port" T_P 14, w ∈ wT := in0_P
def T_Y : u_T := fun k => match k with
  | 0 => ("DeficitNetModel", "links", "I", false)
  | 1 => ("DeficitNetModel", "first", "[I", true)
  | 2 => ("DeficitNetModel", "second", "[I", true)
  | 3 => ("DeficitNetModel", "cost", "[I", true)
  | 4 => ("DeficitNetModel", "slow", "[I", true)
  | 5 => ("DeficitNetModel", "delay", "[I", true)
  | 6 => ("DeficitNetModel", "quantum", "[I", true)
  | 7 => ("DeficitNetModel", "room", "[I", true)
  | 8 => ("DeficitNetModel", "far", "[I", true)
  | 9 => ("DeficitNetModel", "flows", "I", false)
  | 10 => ("DeficitNetModel", "source", "[I", true)
  | 11 => ("DeficitNetModel", "sink", "[I", true)
  | 12 => ("DeficitNetModel", "all", "[I", true)
  | 13 => ("DeficitNetModel", "large", "[I", true)
  | 14 => ("DeficitNetModel", "window", "[I", true)
  | 15 => ("DeficitNetModel", "patience", "[I", true)
  | 16 => ("DeficitNetModel", "birth", "[I", true)
  | 17 => ("DeficitNetModel", "base", "[I", true)
  | 18 => ("DeficitNetModel", "next", "[I", true)
  | 19 => ("DeficitNetModel", "expected", "[I", true)
  | 20 => ("DeficitNetModel", "start", "[I", true)
  | 21 => ("DeficitNetModel", "startTurn", "[I", true)
  | 22 => ("DeficitNetModel", "timeout", "[I", true)
  | 23 => ("DeficitNetModel", "timeoutTurn", "[I", true)
  | 24 => ("DeficitNetModel", "tally", "[I", true)
  | 25 => ("DeficitNetModel", "state", "[I", true)
  | 26 => ("DeficitNetModel", "of", "[I", true)
  | 27 => ("DeficitNetModel", "number", "[I", true)
  | 28 => ("DeficitNetModel", "answer", "[Z", true)
  | 29 => ("DeficitNetModel", "port", "[I", true)
  | 30 => ("DeficitNetModel", "tick", "[I", true)
  | 31 => ("DeficitNetModel", "turn", "[I", true)
  | 32 => ("DeficitNetModel", "came", "[I", true)
  | 33 => ("DeficitNetModel", "deficit", "[I", true)
  | 34 => ("DeficitNetModel", "served", "[Z", true)
  | 35 => ("DeficitNetModel", "begun", "Z", false)
  | 36 => ("DeficitNetModel", "now", "I", false)
  | 37 => ("DeficitNetModel", "turns", "I", false)
  | 38 => ("DeficitNetModel", "events", "I", false)
  | _ => ("DeficitNetModel", "latest", "[J", true)
def ty_Y : Nat → FieldType := fun k => match k with
  | 0 => .int
  | 1 => .array .int
  | 2 => .array .int
  | 3 => .array .int
  | 4 => .array .int
  | 5 => .array .int
  | 6 => .array .int
  | 7 => .array .int
  | 8 => .array .int
  | 9 => .int
  | 10 => .array .int
  | 11 => .array .int
  | 12 => .array .int
  | 13 => .array .int
  | 14 => .array .int
  | 15 => .array .int
  | 16 => .array .int
  | 17 => .array .int
  | 18 => .array .int
  | 19 => .array .int
  | 20 => .array .int
  | 21 => .array .int
  | 22 => .array .int
  | 23 => .array .int
  | 24 => .array .int
  | 25 => .array .int
  | 26 => .array .int
  | 27 => .array .int
  | 28 => .array .boolean
  | 29 => .array .int
  | 30 => .array .int
  | 31 => .array .int
  | 32 => .array .int
  | 33 => .array .int
  | 34 => .array .boolean
  | 35 => .boolean
  | 36 => .int
  | 37 => .int
  | 38 => .int
  | _ => .array .long
theorem nm_Y : ∀ a, a < 40 → ∀ b, b < 40 → a ≠ b → (T_Y a).2.1 ≠ (T_Y b).2.1 := by decide +kernel
theorem tyok_Y : ∀ k, k < 40 → parseFieldDescriptor (T_Y k).2.2.1 = some (ty_Y k) := by decide +kernel
set_option maxRecDepth 20000 in
theorem in0_Y : ∀ w ∈ ([(Jvm.Cond.lays "DeficitNetModel" "DeficitNetModel" "links" "I"), (Jvm.Cond.laysFinal "DeficitNetModel" "DeficitNetModel" "first" "[I"), (Jvm.Cond.laysFinal "DeficitNetModel" "DeficitNetModel" "second" "[I"), (Jvm.Cond.laysFinal "DeficitNetModel" "DeficitNetModel" "cost" "[I"), (Jvm.Cond.laysFinal "DeficitNetModel" "DeficitNetModel" "slow" "[I"), (Jvm.Cond.laysFinal "DeficitNetModel" "DeficitNetModel" "delay" "[I"), (Jvm.Cond.laysFinal "DeficitNetModel" "DeficitNetModel" "quantum" "[I"), (Jvm.Cond.laysFinal "DeficitNetModel" "DeficitNetModel" "room" "[I"), (Jvm.Cond.laysFinal "DeficitNetModel" "DeficitNetModel" "far" "[I"), (Jvm.Cond.lays "DeficitNetModel" "DeficitNetModel" "flows" "I"), (Jvm.Cond.laysFinal "DeficitNetModel" "DeficitNetModel" "source" "[I"), (Jvm.Cond.laysFinal "DeficitNetModel" "DeficitNetModel" "sink" "[I"), (Jvm.Cond.laysFinal "DeficitNetModel" "DeficitNetModel" "all" "[I"), (Jvm.Cond.laysFinal "DeficitNetModel" "DeficitNetModel" "large" "[I"), (Jvm.Cond.laysFinal "DeficitNetModel" "DeficitNetModel" "window" "[I"), (Jvm.Cond.laysFinal "DeficitNetModel" "DeficitNetModel" "patience" "[I"), (Jvm.Cond.laysFinal "DeficitNetModel" "DeficitNetModel" "birth" "[I"), (Jvm.Cond.laysFinal "DeficitNetModel" "DeficitNetModel" "base" "[I"), (Jvm.Cond.laysFinal "DeficitNetModel" "DeficitNetModel" "next" "[I"), (Jvm.Cond.laysFinal "DeficitNetModel" "DeficitNetModel" "expected" "[I"), (Jvm.Cond.laysFinal "DeficitNetModel" "DeficitNetModel" "start" "[I"), (Jvm.Cond.laysFinal "DeficitNetModel" "DeficitNetModel" "startTurn" "[I"), (Jvm.Cond.laysFinal "DeficitNetModel" "DeficitNetModel" "timeout" "[I"), (Jvm.Cond.laysFinal "DeficitNetModel" "DeficitNetModel" "timeoutTurn" "[I"), (Jvm.Cond.laysFinal "DeficitNetModel" "DeficitNetModel" "tally" "[I"), (Jvm.Cond.laysFinal "DeficitNetModel" "DeficitNetModel" "state" "[I"), (Jvm.Cond.laysFinal "DeficitNetModel" "DeficitNetModel" "of" "[I"), (Jvm.Cond.laysFinal "DeficitNetModel" "DeficitNetModel" "number" "[I"), (Jvm.Cond.laysFinal "DeficitNetModel" "DeficitNetModel" "answer" "[Z"), (Jvm.Cond.laysFinal "DeficitNetModel" "DeficitNetModel" "port" "[I"), (Jvm.Cond.laysFinal "DeficitNetModel" "DeficitNetModel" "tick" "[I"), (Jvm.Cond.laysFinal "DeficitNetModel" "DeficitNetModel" "turn" "[I"), (Jvm.Cond.laysFinal "DeficitNetModel" "DeficitNetModel" "came" "[I"), (Jvm.Cond.laysFinal "DeficitNetModel" "DeficitNetModel" "deficit" "[I"), (Jvm.Cond.laysFinal "DeficitNetModel" "DeficitNetModel" "served" "[Z"), (Jvm.Cond.lays "DeficitNetModel" "DeficitNetModel" "begun" "Z"), (Jvm.Cond.lays "DeficitNetModel" "DeficitNetModel" "now" "I"), (Jvm.Cond.lays "DeficitNetModel" "DeficitNetModel" "turns" "I"), (Jvm.Cond.lays "DeficitNetModel" "DeficitNetModel" "events" "I"), (Jvm.Cond.laysFinal "DeficitNetModel" "DeficitNetModel" "latest" "[J")] : List Cond), w ∈ wT := List.forall_mem_cons.mpr ⟨t_520, List.forall_mem_cons.mpr ⟨t_522, List.forall_mem_cons.mpr ⟨t_524, List.forall_mem_cons.mpr ⟨t_526, List.forall_mem_cons.mpr ⟨t_528, List.forall_mem_cons.mpr ⟨t_530, List.forall_mem_cons.mpr ⟨t_532, List.forall_mem_cons.mpr ⟨t_534, List.forall_mem_cons.mpr ⟨t_536, List.forall_mem_cons.mpr ⟨t_538, List.forall_mem_cons.mpr ⟨t_540, List.forall_mem_cons.mpr ⟨t_542, List.forall_mem_cons.mpr ⟨t_544, List.forall_mem_cons.mpr ⟨t_546, List.forall_mem_cons.mpr ⟨t_548, List.forall_mem_cons.mpr ⟨t_550, List.forall_mem_cons.mpr ⟨t_552, List.forall_mem_cons.mpr ⟨t_554, List.forall_mem_cons.mpr ⟨t_556, List.forall_mem_cons.mpr ⟨t_558, List.forall_mem_cons.mpr ⟨t_560, List.forall_mem_cons.mpr ⟨t_562, List.forall_mem_cons.mpr ⟨t_564, List.forall_mem_cons.mpr ⟨t_566, List.forall_mem_cons.mpr ⟨t_568, List.forall_mem_cons.mpr ⟨t_570, List.forall_mem_cons.mpr ⟨t_572, List.forall_mem_cons.mpr ⟨t_574, List.forall_mem_cons.mpr ⟨t_576, List.forall_mem_cons.mpr ⟨t_578, List.forall_mem_cons.mpr ⟨t_580, List.forall_mem_cons.mpr ⟨t_582, List.forall_mem_cons.mpr ⟨t_584, List.forall_mem_cons.mpr ⟨t_586, List.forall_mem_cons.mpr ⟨t_588, List.forall_mem_cons.mpr ⟨t_590, List.forall_mem_cons.mpr ⟨t_592, List.forall_mem_cons.mpr ⟨t_594, List.forall_mem_cons.mpr ⟨t_596, List.forall_mem_cons.mpr ⟨t_598, fun _ h => absurd h List.not_mem_nil⟩⟩⟩⟩⟩⟩⟩⟩⟩⟩⟩⟩⟩⟩⟩⟩⟩⟩⟩⟩⟩⟩⟩⟩⟩⟩⟩⟩⟩⟩⟩⟩⟩⟩⟩⟩⟩⟩⟩⟩
set_option maxRecDepth 20000 in
theorem in_Y : ∀ w ∈ u_ws "DeficitNetModel" T_Y 40, w ∈ wT := in0_Y
abbrev cls6 : List vw_C := [("DeficitNet", T_X, 10), ("DeficitNet$Agenda", T_A, 4), ("DeficitNet$Flow", T_F, 14), ("DeficitNet$Packet", T_K, 7), ("DeficitNet$Port", T_P, 14), ("DeficitNetModel", T_Y, 40)]
abbrev b_X_isNode : ByteArray := prog_1_method_19_code
abbrev y_X_isNode : MethodName := ⟨"DeficitNet", "isNode", "(I)Z"⟩
abbrev b_X_isWithin : ByteArray := prog_1_method_18_code
abbrev y_X_isWithin : MethodName := ⟨"DeficitNet", "isWithin", "(III)Z"⟩
abbrev b_J_fill0 : ByteArray := prog_10_method_103_code
abbrev y_J_fill0 : MethodName := ⟨"java/util/Arrays", "fill", "([II)V"⟩
abbrev b_P_lay : ByteArray := prog_5_method_2_code
abbrev y_P_lay : MethodName := ⟨"DeficitNet$Port", "lay", "(IIIII)V"⟩
abbrev b_X_shortenOver : ByteArray := prog_1_method_22_code
abbrev y_X_shortenOver : MethodName := ⟨"DeficitNet", "shortenOver", "(III)V"⟩
abbrev b_X_link : ByteArray := prog_1_method_2_code
abbrev y_X_link : MethodName := ⟨"DeficitNet", "link", "(IIIII)I"⟩
abbrev b_X_isPort : ByteArray := prog_1_method_20_code
abbrev y_X_isPort : MethodName := ⟨"DeficitNet", "isPort", "(I)Z"⟩
abbrev b_X_shape : ByteArray := prog_1_method_3_code
abbrev y_X_shape : MethodName := ⟨"DeficitNet", "shape", "(III)Z"⟩
abbrev b_F_found : ByteArray := prog_3_method_2_code
abbrev y_F_found : MethodName := ⟨"DeficitNet$Flow", "found", "(IIII)V"⟩
abbrev b_X_flow : ByteArray := prog_1_method_4_code
abbrev y_X_flow : MethodName := ⟨"DeficitNet", "flow", "(IIII)I"⟩
abbrev b_X_isFlow : ByteArray := prog_1_method_21_code
abbrev y_X_isFlow : MethodName := ⟨"DeficitNet", "isFlow", "(I)Z"⟩
abbrev b_X_tune : ByteArray := prog_1_method_5_code
abbrev y_X_tune : MethodName := ⟨"DeficitNet", "tune", "(IIII)Z"⟩
abbrev b_A_unsetAll : ByteArray := prog_2_method_2_code
abbrev y_A_unsetAll : MethodName := ⟨"DeficitNet$Agenda", "unsetAll", "()V"⟩
abbrev b_J_fill1 : ByteArray := prog_10_method_101_code
abbrev y_J_fill1 : MethodName := ⟨"java/util/Arrays", "fill", "([JJ)V"⟩
abbrev b_X_clear : ByteArray := prog_1_method_6_code
abbrev y_X_clear : MethodName := ⟨"DeficitNet", "clear", "()V"⟩
abbrev b_A_set : ByteArray := prog_2_method_4_code
abbrev y_A_set : MethodName := ⟨"DeficitNet$Agenda", "set", "(III)V"⟩
abbrev b_X_begin : ByteArray := prog_1_method_23_code
abbrev y_X_begin : MethodName := ⟨"DeficitNet", "begin", "()V"⟩
abbrev b_A_isBefore : ByteArray := prog_2_method_6_code
abbrev y_A_isBefore : MethodName := ⟨"DeficitNet$Agenda", "isBefore", "(II)Z"⟩
abbrev b_A_firstSlot : ByteArray := prog_2_method_5_code
abbrev y_A_firstSlot : MethodName := ⟨"DeficitNet$Agenda", "firstSlot", "()I"⟩
abbrev b_A_unset : ByteArray := prog_2_method_3_code
abbrev y_A_unset : MethodName := ⟨"DeficitNet$Agenda", "unset", "(I)V"⟩
abbrev b_X_remember : ByteArray := prog_1_method_39_code
abbrev y_X_remember : MethodName := ⟨"DeficitNet", "remember", "(III)V"⟩
abbrev b_M_min : ByteArray := prog_8_method_69_code
abbrev y_M_min : MethodName := ⟨"java/lang/Math", "min", "(II)I"⟩
abbrev b_X_hasTimer : ByteArray := prog_1_method_32_code
abbrev y_X_hasTimer : MethodName := ⟨"DeficitNet", "hasTimer", "(I)Z"⟩
abbrev b_K_enter : ByteArray := prog_4_method_2_code
abbrev y_K_enter : MethodName := ⟨"DeficitNet$Packet", "enter", "(IIZLDeficitNet$Flow;)V"⟩
abbrev b_X_make : ByteArray := prog_1_method_34_code
abbrev y_X_make : MethodName := ⟨"DeficitNet", "make", "(IIZ)I"⟩
abbrev b_X_way : ByteArray := prog_1_method_12_code
abbrev y_X_way : MethodName := ⟨"DeficitNet", "way", "(II)I"⟩
abbrev b_X_queuedOf : ByteArray := prog_1_method_37_code
abbrev y_X_queuedOf : MethodName := ⟨"DeficitNet", "queuedOf", "(LDeficitNet$Port;I)I"⟩
abbrev b_P_serveFirst : ByteArray := prog_5_method_5_code
abbrev y_P_serveFirst : MethodName := ⟨"DeficitNet$Port", "serveFirst", "()V"⟩
abbrev b_X_firstPlaceOf : ByteArray := prog_1_method_38_code
abbrev y_X_firstPlaceOf : MethodName := ⟨"DeficitNet", "firstPlaceOf", "(LDeficitNet$Port;I)I"⟩
abbrev b_P_dropFirst : ByteArray := prog_5_method_4_code
abbrev y_P_dropFirst : MethodName := ⟨"DeficitNet$Port", "dropFirst", "()V"⟩
abbrev b_P_append : ByteArray := prog_5_method_3_code
abbrev y_P_append : MethodName := ⟨"DeficitNet$Port", "append", "(I)V"⟩
abbrev b_P_takeFrom : ByteArray := prog_5_method_6_code
abbrev y_P_takeFrom : MethodName := ⟨"DeficitNet$Port", "takeFrom", "(I)I"⟩
abbrev b_X_choose : ByteArray := prog_1_method_36_code
abbrev y_X_choose : MethodName := ⟨"DeficitNet", "choose", "(LDeficitNet$Port;)V"⟩
abbrev b_X_put : ByteArray := prog_1_method_35_code
abbrev y_X_put : MethodName := ⟨"DeficitNet", "put", "(II)V"⟩
abbrev b_X_setTimer : ByteArray := prog_1_method_33_code
abbrev y_X_setTimer : MethodName := ⟨"DeficitNet", "setTimer", "(I)V"⟩
abbrev b_X_fill : ByteArray := prog_1_method_31_code
abbrev y_X_fill : MethodName := ⟨"DeficitNet", "fill", "(I)V"⟩
abbrev b_X_start : ByteArray := prog_1_method_25_code
abbrev y_X_start : MethodName := ⟨"DeficitNet", "start", "(I)V"⟩
abbrev b_K_label : ByteArray := prog_4_method_3_code
abbrev y_K_label : MethodName := ⟨"DeficitNet$Packet", "label", "()I"⟩
abbrev b_X_leave : ByteArray := prog_1_method_27_code
abbrev y_X_leave : MethodName := ⟨"DeficitNet", "leave", "(I)V"⟩
abbrev b_M_max : ByteArray := prog_8_method_65_code
abbrev y_M_max : MethodName := ⟨"java/lang/Math", "max", "(II)I"⟩
abbrev b_X_moveBase : ByteArray := prog_1_method_30_code
abbrev y_X_moveBase : MethodName := ⟨"DeficitNet", "moveBase", "(II)V"⟩
abbrev b_X_takeData : ByteArray := prog_1_method_29_code
abbrev y_X_takeData : MethodName := ⟨"DeficitNet", "takeData", "(II)V"⟩
abbrev b_X_arrive : ByteArray := prog_1_method_28_code
abbrev y_X_arrive : MethodName := ⟨"DeficitNet", "arrive", "(I)V"⟩
abbrev b_X_timeOut : ByteArray := prog_1_method_26_code
abbrev y_X_timeOut : MethodName := ⟨"DeficitNet", "timeOut", "(I)V"⟩
abbrev b_X_happen : ByteArray := prog_1_method_24_code
abbrev y_X_happen : MethodName := ⟨"DeficitNet", "happen", "()Z"⟩
abbrev b_X_step : ByteArray := prog_1_method_7_code
abbrev y_X_step : MethodName := ⟨"DeficitNet", "step", "()Z"⟩
abbrev b_X_run : ByteArray := prog_1_method_8_code
abbrev y_X_run : MethodName := ⟨"DeficitNet", "run", "(I)I"⟩
abbrev b_X_now : ByteArray := prog_1_method_9_code
abbrev y_X_now : MethodName := ⟨"DeficitNet", "now", "()I"⟩
abbrev b_X_trace : ByteArray := prog_1_method_10_code
abbrev y_X_trace : MethodName := ⟨"DeficitNet", "trace", "(I)J"⟩
abbrev b_X_distance : ByteArray := prog_1_method_11_code
abbrev y_X_distance : MethodName := ⟨"DeficitNet", "distance", "(II)I"⟩
abbrev b_X_waiting : ByteArray := prog_1_method_13_code
abbrev y_X_waiting : MethodName := ⟨"DeficitNet", "waiting", "(II)I"⟩
abbrev b_X_deficit : ByteArray := prog_1_method_14_code
abbrev y_X_deficit : MethodName := ⟨"DeficitNet", "deficit", "(II)I"⟩
abbrev b_X_onPort : ByteArray := prog_1_method_15_code
abbrev y_X_onPort : MethodName := ⟨"DeficitNet", "onPort", "(I)I"⟩
abbrev b_X_timer : ByteArray := prog_1_method_16_code
abbrev y_X_timer : MethodName := ⟨"DeficitNet", "timer", "(I)I"⟩
abbrev b_X_count : ByteArray := prog_1_method_17_code
abbrev y_X_count : MethodName := ⟨"DeficitNet", "count", "(II)I"⟩
abbrev b_Y_lesser : ByteArray := prog_7_method_11_code
abbrev y_Y_lesser : MethodName := ⟨"DeficitNetModel", "lesser", "(II)I"⟩
abbrev b_Y_measure : ByteArray := prog_7_method_12_code
abbrev y_Y_measure : MethodName := ⟨"DeficitNetModel", "measure", "()V"⟩
abbrev b_Y_clear : ByteArray := prog_7_method_2_code
abbrev y_Y_clear : MethodName := ⟨"DeficitNetModel", "clear", "()V"⟩
abbrev b_Y_node : ByteArray := prog_7_method_3_code
abbrev y_Y_node : MethodName := ⟨"DeficitNetModel", "node", "(I)Z"⟩
abbrev b_Y_within : ByteArray := prog_7_method_4_code
abbrev y_Y_within : MethodName := ⟨"DeficitNetModel", "within", "(III)Z"⟩
abbrev b_Y_link : ByteArray := prog_7_method_5_code
abbrev y_Y_link : MethodName := ⟨"DeficitNetModel", "link", "(IIIII)I"⟩
abbrev b_Y_isPort : ByteArray := prog_7_method_6_code
abbrev y_Y_isPort : MethodName := ⟨"DeficitNetModel", "isPort", "(I)Z"⟩
abbrev b_Y_isFlow : ByteArray := prog_7_method_7_code
abbrev y_Y_isFlow : MethodName := ⟨"DeficitNetModel", "isFlow", "(I)Z"⟩
abbrev b_Y_shape : ByteArray := prog_7_method_8_code
abbrev y_Y_shape : MethodName := ⟨"DeficitNetModel", "shape", "(III)Z"⟩
abbrev b_Y_flow : ByteArray := prog_7_method_9_code
abbrev y_Y_flow : MethodName := ⟨"DeficitNetModel", "flow", "(IIII)I"⟩
abbrev b_Y_tune : ByteArray := prog_7_method_10_code
abbrev y_Y_tune : MethodName := ⟨"DeficitNetModel", "tune", "(IIII)Z"⟩
abbrev b_Y_distance : ByteArray := prog_7_method_13_code
abbrev y_Y_distance : MethodName := ⟨"DeficitNetModel", "distance", "(II)I"⟩
abbrev b_Y_at : ByteArray := prog_7_method_14_code
abbrev y_Y_at : MethodName := ⟨"DeficitNetModel", "at", "(I)I"⟩
abbrev b_Y_leads : ByteArray := prog_7_method_15_code
abbrev y_Y_leads : MethodName := ⟨"DeficitNetModel", "leads", "(I)I"⟩
abbrev b_Y_way : ByteArray := prog_7_method_16_code
abbrev y_Y_way : MethodName := ⟨"DeficitNetModel", "way", "(II)I"⟩
abbrev b_Y_sizeOf : ByteArray := prog_7_method_17_code
abbrev y_Y_sizeOf : MethodName := ⟨"DeficitNetModel", "sizeOf", "(I)I"⟩
abbrev b_Y_endOf : ByteArray := prog_7_method_18_code
abbrev y_Y_endOf : MethodName := ⟨"DeficitNetModel", "endOf", "(I)I"⟩
abbrev b_Y_queued : ByteArray := prog_7_method_19_code
abbrev y_Y_queued : MethodName := ⟨"DeficitNetModel", "queued", "(II)I"⟩
abbrev b_Y_on : ByteArray := prog_7_method_20_code
abbrev y_Y_on : MethodName := ⟨"DeficitNetModel", "on", "(I)I"⟩
abbrev b_Y_lose : ByteArray := prog_7_method_21_code
abbrev y_Y_lose : MethodName := ⟨"DeficitNetModel", "lose", "(I)V"⟩
abbrev b_Y_leader : ByteArray := prog_7_method_24_code
abbrev y_Y_leader : MethodName := ⟨"DeficitNetModel", "leader", "(I)I"⟩
abbrev b_Y_head : ByteArray := prog_7_method_25_code
abbrev y_Y_head : MethodName := ⟨"DeficitNetModel", "head", "(II)I"⟩
abbrev b_Y_choose : ByteArray := prog_7_method_26_code
abbrev y_Y_choose : MethodName := ⟨"DeficitNetModel", "choose", "(I)V"⟩
abbrev b_Y_put : ByteArray := prog_7_method_23_code
abbrev y_Y_put : MethodName := ⟨"DeficitNetModel", "put", "(II)V"⟩
abbrev b_Y_make : ByteArray := prog_7_method_22_code
abbrev y_Y_make : MethodName := ⟨"DeficitNetModel", "make", "(IIZI)V"⟩
abbrev b_Y_setTimeout : ByteArray := prog_7_method_27_code
abbrev y_Y_setTimeout : MethodName := ⟨"DeficitNetModel", "setTimeout", "(I)V"⟩
abbrev b_Y_fill : ByteArray := prog_7_method_28_code
abbrev y_Y_fill : MethodName := ⟨"DeficitNetModel", "fill", "(I)V"⟩
abbrev b_Y_arrive : ByteArray := prog_7_method_29_code
abbrev y_Y_arrive : MethodName := ⟨"DeficitNetModel", "arrive", "(I)V"⟩
abbrev b_Y_begin : ByteArray := prog_7_method_30_code
abbrev y_Y_begin : MethodName := ⟨"DeficitNetModel", "begin", "()V"⟩
abbrev b_Y_note : ByteArray := prog_7_method_31_code
abbrev y_Y_note : MethodName := ⟨"DeficitNetModel", "note", "(III)V"⟩
abbrev b_Y_sooner : ByteArray := prog_7_method_33_code
abbrev y_Y_sooner : MethodName := ⟨"DeficitNetModel", "sooner", "(JII)J"⟩
abbrev b_Y_soonest : ByteArray := prog_7_method_32_code
abbrev y_Y_soonest : MethodName := ⟨"DeficitNetModel", "soonest", "()J"⟩
abbrev b_Y_moved : ByteArray := prog_7_method_35_code
abbrev y_Y_moved : MethodName := ⟨"DeficitNetModel", "moved", "(I)V"⟩
abbrev b_Y_step : ByteArray := prog_7_method_34_code
abbrev y_Y_step : MethodName := ⟨"DeficitNetModel", "step", "()Z"⟩
abbrev b_Y_run : ByteArray := prog_7_method_36_code
abbrev y_Y_run : MethodName := ⟨"DeficitNetModel", "run", "(I)I"⟩
abbrev b_Y_now : ByteArray := prog_7_method_37_code
abbrev y_Y_now : MethodName := ⟨"DeficitNetModel", "now", "()I"⟩
abbrev b_Y_trace : ByteArray := prog_7_method_38_code
abbrev y_Y_trace : MethodName := ⟨"DeficitNetModel", "trace", "(I)J"⟩
abbrev b_Y_waiting : ByteArray := prog_7_method_39_code
abbrev y_Y_waiting : MethodName := ⟨"DeficitNetModel", "waiting", "(II)I"⟩
abbrev b_Y_deficit : ByteArray := prog_7_method_40_code
abbrev y_Y_deficit : MethodName := ⟨"DeficitNetModel", "deficit", "(II)I"⟩
abbrev b_Y_onPort : ByteArray := prog_7_method_41_code
abbrev y_Y_onPort : MethodName := ⟨"DeficitNetModel", "onPort", "(I)I"⟩
abbrev b_Y_timer : ByteArray := prog_7_method_42_code
abbrev y_Y_timer : MethodName := ⟨"DeficitNetModel", "timer", "(I)I"⟩
abbrev b_Y_count : ByteArray := prog_7_method_43_code
abbrev y_Y_count : MethodName := ⟨"DeficitNetModel", "count", "(II)I"⟩
end
section
theorem d_X_isNode_0 : decode b_X_isNode 0 = .ok (.iload_n 0, 1) := by decide +kernel
theorem d_X_isNode_1 : decode b_X_isNode 1 = .ok (.ifCond .lt 13, 3) := by decide +kernel
theorem d_X_isNode_4 : decode b_X_isNode 4 = .ok (.iload_n 0, 1) := by decide +kernel
theorem d_X_isNode_5 : decode b_X_isNode 5 = .ok (.bipush 8, 2) := by decide +kernel
theorem d_X_isNode_7 : decode b_X_isNode 7 = .ok (.if_icmp .ge 7, 3) := by decide +kernel
theorem d_X_isNode_10 : decode b_X_isNode 10 = .ok (.iconst 1, 1) := by decide +kernel
theorem d_X_isNode_11 : decode b_X_isNode 11 = .ok (.goto 4, 3) := by decide +kernel
theorem d_X_isNode_14 : decode b_X_isNode 14 = .ok (.iconst 0, 1) := by decide +kernel
theorem d_X_isNode_15 : decode b_X_isNode 15 = .ok (.ireturn, 1) := by decide +kernel
theorem d_X_isWithin_0 : decode b_X_isWithin 0 = .ok (.iload_n 0, 1) := by decide +kernel
theorem d_X_isWithin_1 : decode b_X_isWithin 1 = .ok (.iload_n 1, 1) := by decide +kernel
theorem d_X_isWithin_2 : decode b_X_isWithin 2 = .ok (.if_icmp .lt 12, 3) := by decide +kernel
theorem d_X_isWithin_5 : decode b_X_isWithin 5 = .ok (.iload_n 0, 1) := by decide +kernel
theorem d_X_isWithin_6 : decode b_X_isWithin 6 = .ok (.iload_n 2, 1) := by decide +kernel
theorem d_X_isWithin_7 : decode b_X_isWithin 7 = .ok (.if_icmp .gt 7, 3) := by decide +kernel
theorem d_X_isWithin_10 : decode b_X_isWithin 10 = .ok (.iconst 1, 1) := by decide +kernel
theorem d_X_isWithin_11 : decode b_X_isWithin 11 = .ok (.goto 4, 3) := by decide +kernel
theorem d_X_isWithin_14 : decode b_X_isWithin 14 = .ok (.iconst 0, 1) := by decide +kernel
theorem d_X_isWithin_15 : decode b_X_isWithin 15 = .ok (.ireturn, 1) := by decide +kernel
theorem d_J_fill0_0 : decode b_J_fill0 0 = .ok (.iconst 0, 1) := by decide +kernel
theorem d_J_fill0_1 : decode b_J_fill0 1 = .ok (.istore_n 2, 1) := by decide +kernel
theorem d_J_fill0_2 : decode b_J_fill0 2 = .ok (.aload_n 0, 1) := by decide +kernel
theorem d_J_fill0_3 : decode b_J_fill0 3 = .ok (.arraylength, 1) := by decide +kernel
theorem d_J_fill0_4 : decode b_J_fill0 4 = .ok (.istore_n 3, 1) := by decide +kernel
theorem d_J_fill0_5 : decode b_J_fill0 5 = .ok (.iload_n 2, 1) := by decide +kernel
theorem d_J_fill0_6 : decode b_J_fill0 6 = .ok (.iload_n 3, 1) := by decide +kernel
theorem d_J_fill0_7 : decode b_J_fill0 7 = .ok (.if_icmp .ge 13, 3) := by decide +kernel
theorem d_J_fill0_10 : decode b_J_fill0 10 = .ok (.aload_n 0, 1) := by decide +kernel
theorem d_J_fill0_11 : decode b_J_fill0 11 = .ok (.iload_n 2, 1) := by decide +kernel
theorem d_J_fill0_12 : decode b_J_fill0 12 = .ok (.iload_n 1, 1) := by decide +kernel
theorem d_J_fill0_13 : decode b_J_fill0 13 = .ok (.iastore, 1) := by decide +kernel
theorem d_J_fill0_14 : decode b_J_fill0 14 = .ok (.iinc 2 1, 3) := by decide +kernel
theorem d_J_fill0_17 : decode b_J_fill0 17 = .ok (.goto (-12), 3) := by decide +kernel
theorem d_J_fill0_20 : decode b_J_fill0 20 = .ok (.return_, 1) := by decide +kernel
theorem d_P_lay_0 : decode b_P_lay 0 = .ok (.aload_n 0, 1) := by decide +kernel
theorem d_P_lay_1 : decode b_P_lay 1 = .ok (.iload_n 1, 1) := by decide +kernel
theorem d_P_lay_2 : decode b_P_lay 2 = .ok (.putfield 21, 3) := by decide +kernel
theorem d_P_lay_5 : decode b_P_lay 5 = .ok (.aload_n 0, 1) := by decide +kernel
theorem d_P_lay_6 : decode b_P_lay 6 = .ok (.iload_n 2, 1) := by decide +kernel
theorem d_P_lay_7 : decode b_P_lay 7 = .ok (.putfield 25, 3) := by decide +kernel
theorem d_P_lay_10 : decode b_P_lay 10 = .ok (.aload_n 0, 1) := by decide +kernel
theorem d_P_lay_11 : decode b_P_lay 11 = .ok (.iload_n 3, 1) := by decide +kernel
theorem d_P_lay_12 : decode b_P_lay 12 = .ok (.putfield 28, 3) := by decide +kernel
theorem d_P_lay_15 : decode b_P_lay 15 = .ok (.aload_n 0, 1) := by decide +kernel
theorem d_P_lay_16 : decode b_P_lay 16 = .ok (.iload 4, 2) := by decide +kernel
theorem d_P_lay_18 : decode b_P_lay 18 = .ok (.putfield 31, 3) := by decide +kernel
theorem d_P_lay_21 : decode b_P_lay 21 = .ok (.aload_n 0, 1) := by decide +kernel
theorem d_P_lay_22 : decode b_P_lay 22 = .ok (.iload 5, 2) := by decide +kernel
theorem d_P_lay_24 : decode b_P_lay 24 = .ok (.putfield 34, 3) := by decide +kernel
theorem d_P_lay_27 : decode b_P_lay 27 = .ok (.aload_n 0, 1) := by decide +kernel
theorem d_P_lay_28 : decode b_P_lay 28 = .ok (.bipush 8, 2) := by decide +kernel
theorem d_P_lay_30 : decode b_P_lay 30 = .ok (.putfield 37, 3) := by decide +kernel
theorem d_P_lay_33 : decode b_P_lay 33 = .ok (.aload_n 0, 1) := by decide +kernel
theorem d_P_lay_34 : decode b_P_lay 34 = .ok (.iconst 4, 1) := by decide +kernel
theorem d_P_lay_35 : decode b_P_lay 35 = .ok (.putfield 40, 3) := by decide +kernel
theorem d_P_lay_38 : decode b_P_lay 38 = .ok (.aload_n 0, 1) := by decide +kernel
theorem d_P_lay_39 : decode b_P_lay 39 = .ok (.iconst (-1), 1) := by decide +kernel
theorem d_P_lay_40 : decode b_P_lay 40 = .ok (.putfield 43, 3) := by decide +kernel
theorem d_P_lay_43 : decode b_P_lay 43 = .ok (.aload_n 0, 1) := by decide +kernel
theorem d_P_lay_44 : decode b_P_lay 44 = .ok (.iconst 0, 1) := by decide +kernel
theorem d_P_lay_45 : decode b_P_lay 45 = .ok (.putfield 46, 3) := by decide +kernel
theorem d_P_lay_48 : decode b_P_lay 48 = .ok (.aload_n 0, 1) := by decide +kernel
theorem d_P_lay_49 : decode b_P_lay 49 = .ok (.iconst 0, 1) := by decide +kernel
theorem d_P_lay_50 : decode b_P_lay 50 = .ok (.putfield 49, 3) := by decide +kernel
theorem d_P_lay_53 : decode b_P_lay 53 = .ok (.aload_n 0, 1) := by decide +kernel
theorem d_P_lay_54 : decode b_P_lay 54 = .ok (.iconst 0, 1) := by decide +kernel
theorem d_P_lay_55 : decode b_P_lay 55 = .ok (.putfield 52, 3) := by decide +kernel
theorem d_P_lay_58 : decode b_P_lay 58 = .ok (.aload_n 0, 1) := by decide +kernel
theorem d_P_lay_59 : decode b_P_lay 59 = .ok (.getfield 18, 3) := by decide +kernel
theorem d_P_lay_62 : decode b_P_lay 62 = .ok (.iconst 0, 1) := by decide +kernel
theorem d_P_lay_63 : decode b_P_lay 63 = .ok (.invokestatic 56, 3) := by decide +kernel
theorem d_P_lay_66 : decode b_P_lay 66 = .ok (.return_, 1) := by decide +kernel
theorem d_X_shortenOver_0 : decode b_X_shortenOver 0 = .ok (.iconst 0, 1) := by decide +kernel
theorem d_X_shortenOver_1 : decode b_X_shortenOver 1 = .ok (.istore 4, 2) := by decide +kernel
theorem d_X_shortenOver_3 : decode b_X_shortenOver 3 = .ok (.iload 4, 2) := by decide +kernel
theorem d_X_shortenOver_5 : decode b_X_shortenOver 5 = .ok (.bipush 8, 2) := by decide +kernel
theorem d_X_shortenOver_7 : decode b_X_shortenOver 7 = .ok (.if_icmp .ge 118, 3) := by decide +kernel
theorem d_X_shortenOver_10 : decode b_X_shortenOver 10 = .ok (.iconst 0, 1) := by decide +kernel
theorem d_X_shortenOver_11 : decode b_X_shortenOver 11 = .ok (.istore 5, 2) := by decide +kernel
theorem d_X_shortenOver_13 : decode b_X_shortenOver 13 = .ok (.iload 5, 2) := by decide +kernel
theorem d_X_shortenOver_15 : decode b_X_shortenOver 15 = .ok (.bipush 8, 2) := by decide +kernel
theorem d_X_shortenOver_17 : decode b_X_shortenOver 17 = .ok (.if_icmp .ge 102, 3) := by decide +kernel
theorem d_X_shortenOver_20 : decode b_X_shortenOver 20 = .ok (.aload_n 0, 1) := by decide +kernel
theorem d_X_shortenOver_21 : decode b_X_shortenOver 21 = .ok (.getfield 11, 3) := by decide +kernel
theorem d_X_shortenOver_24 : decode b_X_shortenOver 24 = .ok (.iload 4, 2) := by decide +kernel
theorem d_X_shortenOver_26 : decode b_X_shortenOver 26 = .ok (.aaload, 1) := by decide +kernel
theorem d_X_shortenOver_27 : decode b_X_shortenOver 27 = .ok (.iload_n 1, 1) := by decide +kernel
theorem d_X_shortenOver_28 : decode b_X_shortenOver 28 = .ok (.iaload, 1) := by decide +kernel
theorem d_X_shortenOver_29 : decode b_X_shortenOver 29 = .ok (.iconst (-1), 1) := by decide +kernel
theorem d_X_shortenOver_30 : decode b_X_shortenOver 30 = .ok (.if_icmp .eq 83, 3) := by decide +kernel
theorem d_X_shortenOver_33 : decode b_X_shortenOver 33 = .ok (.aload_n 0, 1) := by decide +kernel
theorem d_X_shortenOver_34 : decode b_X_shortenOver 34 = .ok (.getfield 11, 3) := by decide +kernel
theorem d_X_shortenOver_37 : decode b_X_shortenOver 37 = .ok (.iload_n 2, 1) := by decide +kernel
theorem d_X_shortenOver_38 : decode b_X_shortenOver 38 = .ok (.aaload, 1) := by decide +kernel
theorem d_X_shortenOver_39 : decode b_X_shortenOver 39 = .ok (.iload 5, 2) := by decide +kernel
theorem d_X_shortenOver_41 : decode b_X_shortenOver 41 = .ok (.iaload, 1) := by decide +kernel
theorem d_X_shortenOver_42 : decode b_X_shortenOver 42 = .ok (.iconst (-1), 1) := by decide +kernel
theorem d_X_shortenOver_43 : decode b_X_shortenOver 43 = .ok (.if_icmp .ne 6, 3) := by decide +kernel
theorem d_X_shortenOver_46 : decode b_X_shortenOver 46 = .ok (.goto 67, 3) := by decide +kernel
theorem d_X_shortenOver_49 : decode b_X_shortenOver 49 = .ok (.aload_n 0, 1) := by decide +kernel
theorem d_X_shortenOver_50 : decode b_X_shortenOver 50 = .ok (.getfield 11, 3) := by decide +kernel
theorem d_X_shortenOver_53 : decode b_X_shortenOver 53 = .ok (.iload 4, 2) := by decide +kernel
theorem d_X_shortenOver_55 : decode b_X_shortenOver 55 = .ok (.aaload, 1) := by decide +kernel
theorem d_X_shortenOver_56 : decode b_X_shortenOver 56 = .ok (.iload_n 1, 1) := by decide +kernel
theorem d_X_shortenOver_57 : decode b_X_shortenOver 57 = .ok (.iaload, 1) := by decide +kernel
theorem d_X_shortenOver_58 : decode b_X_shortenOver 58 = .ok (.iload_n 3, 1) := by decide +kernel
theorem d_X_shortenOver_59 : decode b_X_shortenOver 59 = .ok (.iadd, 1) := by decide +kernel
theorem d_X_shortenOver_60 : decode b_X_shortenOver 60 = .ok (.aload_n 0, 1) := by decide +kernel
theorem d_X_shortenOver_61 : decode b_X_shortenOver 61 = .ok (.getfield 11, 3) := by decide +kernel
theorem d_X_shortenOver_64 : decode b_X_shortenOver 64 = .ok (.iload_n 2, 1) := by decide +kernel
theorem d_X_shortenOver_65 : decode b_X_shortenOver 65 = .ok (.aaload, 1) := by decide +kernel
theorem d_X_shortenOver_66 : decode b_X_shortenOver 66 = .ok (.iload 5, 2) := by decide +kernel
theorem d_X_shortenOver_68 : decode b_X_shortenOver 68 = .ok (.iaload, 1) := by decide +kernel
theorem d_X_shortenOver_69 : decode b_X_shortenOver 69 = .ok (.iadd, 1) := by decide +kernel
theorem d_X_shortenOver_70 : decode b_X_shortenOver 70 = .ok (.istore 6, 2) := by decide +kernel
theorem d_X_shortenOver_72 : decode b_X_shortenOver 72 = .ok (.aload_n 0, 1) := by decide +kernel
theorem d_X_shortenOver_73 : decode b_X_shortenOver 73 = .ok (.getfield 11, 3) := by decide +kernel
theorem d_X_shortenOver_76 : decode b_X_shortenOver 76 = .ok (.iload 4, 2) := by decide +kernel
theorem d_X_shortenOver_78 : decode b_X_shortenOver 78 = .ok (.aaload, 1) := by decide +kernel
theorem d_X_shortenOver_79 : decode b_X_shortenOver 79 = .ok (.iload 5, 2) := by decide +kernel
theorem d_X_shortenOver_81 : decode b_X_shortenOver 81 = .ok (.iaload, 1) := by decide +kernel
theorem d_X_shortenOver_82 : decode b_X_shortenOver 82 = .ok (.iconst (-1), 1) := by decide +kernel
theorem d_X_shortenOver_83 : decode b_X_shortenOver 83 = .ok (.if_icmp .eq 18, 3) := by decide +kernel
theorem d_X_shortenOver_86 : decode b_X_shortenOver 86 = .ok (.iload 6, 2) := by decide +kernel
theorem d_X_shortenOver_88 : decode b_X_shortenOver 88 = .ok (.aload_n 0, 1) := by decide +kernel
theorem d_X_shortenOver_89 : decode b_X_shortenOver 89 = .ok (.getfield 11, 3) := by decide +kernel
theorem d_X_shortenOver_92 : decode b_X_shortenOver 92 = .ok (.iload 4, 2) := by decide +kernel
theorem d_X_shortenOver_94 : decode b_X_shortenOver 94 = .ok (.aaload, 1) := by decide +kernel
theorem d_X_shortenOver_95 : decode b_X_shortenOver 95 = .ok (.iload 5, 2) := by decide +kernel
theorem d_X_shortenOver_97 : decode b_X_shortenOver 97 = .ok (.iaload, 1) := by decide +kernel
theorem d_X_shortenOver_98 : decode b_X_shortenOver 98 = .ok (.if_icmp .ge 15, 3) := by decide +kernel
theorem d_X_shortenOver_101 : decode b_X_shortenOver 101 = .ok (.aload_n 0, 1) := by decide +kernel
theorem d_X_shortenOver_102 : decode b_X_shortenOver 102 = .ok (.getfield 11, 3) := by decide +kernel
theorem d_X_shortenOver_105 : decode b_X_shortenOver 105 = .ok (.iload 4, 2) := by decide +kernel
theorem d_X_shortenOver_107 : decode b_X_shortenOver 107 = .ok (.aaload, 1) := by decide +kernel
theorem d_X_shortenOver_108 : decode b_X_shortenOver 108 = .ok (.iload 5, 2) := by decide +kernel
theorem d_X_shortenOver_110 : decode b_X_shortenOver 110 = .ok (.iload 6, 2) := by decide +kernel
theorem d_X_shortenOver_112 : decode b_X_shortenOver 112 = .ok (.iastore, 1) := by decide +kernel
theorem d_X_shortenOver_113 : decode b_X_shortenOver 113 = .ok (.iinc 5 1, 3) := by decide +kernel
theorem d_X_shortenOver_116 : decode b_X_shortenOver 116 = .ok (.goto (-103), 3) := by decide +kernel
theorem d_X_shortenOver_119 : decode b_X_shortenOver 119 = .ok (.iinc 4 1, 3) := by decide +kernel
theorem d_X_shortenOver_122 : decode b_X_shortenOver 122 = .ok (.goto (-119), 3) := by decide +kernel
theorem d_X_shortenOver_125 : decode b_X_shortenOver 125 = .ok (.return_, 1) := by decide +kernel
theorem d_X_link_0 : decode b_X_link 0 = .ok (.aload_n 0, 1) := by decide +kernel
theorem d_X_link_1 : decode b_X_link 1 = .ok (.getfield 49, 3) := by decide +kernel
theorem d_X_link_4 : decode b_X_link 4 = .ok (.ifCond .ne 31, 3) := by decide +kernel
theorem d_X_link_7 : decode b_X_link 7 = .ok (.aload_n 0, 1) := by decide +kernel
theorem d_X_link_8 : decode b_X_link 8 = .ok (.getfield 53, 3) := by decide +kernel
theorem d_X_link_11 : decode b_X_link 11 = .ok (.bipush 12, 2) := by decide +kernel
theorem d_X_link_13 : decode b_X_link 13 = .ok (.if_icmp .ge 22, 3) := by decide +kernel
theorem d_X_link_16 : decode b_X_link 16 = .ok (.iload_n 1, 1) := by decide +kernel
theorem d_X_link_17 : decode b_X_link 17 = .ok (.invokestatic 57, 3) := by decide +kernel
theorem d_X_link_20 : decode b_X_link 20 = .ok (.ifCond .eq 15, 3) := by decide +kernel
theorem d_X_link_23 : decode b_X_link 23 = .ok (.iload_n 2, 1) := by decide +kernel
theorem d_X_link_24 : decode b_X_link 24 = .ok (.invokestatic 57, 3) := by decide +kernel
theorem d_X_link_27 : decode b_X_link 27 = .ok (.ifCond .eq 8, 3) := by decide +kernel
theorem d_X_link_30 : decode b_X_link 30 = .ok (.iload_n 1, 1) := by decide +kernel
theorem d_X_link_31 : decode b_X_link 31 = .ok (.iload_n 2, 1) := by decide +kernel
theorem d_X_link_32 : decode b_X_link 32 = .ok (.if_icmp .ne 5, 3) := by decide +kernel
theorem d_X_link_35 : decode b_X_link 35 = .ok (.iconst (-1), 1) := by decide +kernel
theorem d_X_link_36 : decode b_X_link 36 = .ok (.ireturn, 1) := by decide +kernel
theorem d_X_link_37 : decode b_X_link 37 = .ok (.iload_n 3, 1) := by decide +kernel
theorem d_X_link_38 : decode b_X_link 38 = .ok (.iconst 1, 1) := by decide +kernel
theorem d_X_link_39 : decode b_X_link 39 = .ok (.bipush 100, 2) := by decide +kernel
theorem d_X_link_41 : decode b_X_link 41 = .ok (.invokestatic 61, 3) := by decide +kernel
theorem d_X_link_44 : decode b_X_link 44 = .ok (.ifCond .eq 25, 3) := by decide +kernel
theorem d_X_link_47 : decode b_X_link 47 = .ok (.iload 4, 2) := by decide +kernel
theorem d_X_link_49 : decode b_X_link 49 = .ok (.iconst 1, 1) := by decide +kernel
theorem d_X_link_50 : decode b_X_link 50 = .ok (.bipush 16, 2) := by decide +kernel
theorem d_X_link_52 : decode b_X_link 52 = .ok (.invokestatic 61, 3) := by decide +kernel
theorem d_X_link_55 : decode b_X_link 55 = .ok (.ifCond .eq 14, 3) := by decide +kernel
theorem d_X_link_58 : decode b_X_link 58 = .ok (.iload 5, 2) := by decide +kernel
theorem d_X_link_60 : decode b_X_link 60 = .ok (.iconst 0, 1) := by decide +kernel
theorem d_X_link_61 : decode b_X_link 61 = .ok (.bipush 40, 2) := by decide +kernel
theorem d_X_link_63 : decode b_X_link 63 = .ok (.invokestatic 61, 3) := by decide +kernel
theorem d_X_link_66 : decode b_X_link 66 = .ok (.ifCond .ne 5, 3) := by decide +kernel
theorem d_X_link_69 : decode b_X_link 69 = .ok (.iconst (-1), 1) := by decide +kernel
theorem d_X_link_70 : decode b_X_link 70 = .ok (.ireturn, 1) := by decide +kernel
theorem d_X_link_71 : decode b_X_link 71 = .ok (.aload_n 0, 1) := by decide +kernel
theorem d_X_link_72 : decode b_X_link 72 = .ok (.getfield 53, 3) := by decide +kernel
theorem d_X_link_75 : decode b_X_link 75 = .ok (.istore 6, 2) := by decide +kernel
theorem d_X_link_77 : decode b_X_link 77 = .ok (.aload_n 0, 1) := by decide +kernel
theorem d_X_link_78 : decode b_X_link 78 = .ok (.getfield 16, 3) := by decide +kernel
theorem d_X_link_81 : decode b_X_link 81 = .ok (.iconst 2, 1) := by decide +kernel
theorem d_X_link_82 : decode b_X_link 82 = .ok (.iload 6, 2) := by decide +kernel
theorem d_X_link_84 : decode b_X_link 84 = .ok (.imul, 1) := by decide +kernel
theorem d_X_link_85 : decode b_X_link 85 = .ok (.aaload, 1) := by decide +kernel
theorem d_X_link_86 : decode b_X_link 86 = .ok (.iload_n 1, 1) := by decide +kernel
theorem d_X_link_87 : decode b_X_link 87 = .ok (.iload_n 2, 1) := by decide +kernel
theorem d_X_link_88 : decode b_X_link 88 = .ok (.iload_n 3, 1) := by decide +kernel
theorem d_X_link_89 : decode b_X_link 89 = .ok (.iload 4, 2) := by decide +kernel
theorem d_X_link_91 : decode b_X_link 91 = .ok (.iload 5, 2) := by decide +kernel
theorem d_X_link_93 : decode b_X_link 93 = .ok (.invokevirtual 65, 3) := by decide +kernel
theorem d_X_link_96 : decode b_X_link 96 = .ok (.aload_n 0, 1) := by decide +kernel
theorem d_X_link_97 : decode b_X_link 97 = .ok (.getfield 16, 3) := by decide +kernel
theorem d_X_link_100 : decode b_X_link 100 = .ok (.iconst 2, 1) := by decide +kernel
theorem d_X_link_101 : decode b_X_link 101 = .ok (.iload 6, 2) := by decide +kernel
theorem d_X_link_103 : decode b_X_link 103 = .ok (.imul, 1) := by decide +kernel
theorem d_X_link_104 : decode b_X_link 104 = .ok (.iconst 1, 1) := by decide +kernel
theorem d_X_link_105 : decode b_X_link 105 = .ok (.iadd, 1) := by decide +kernel
theorem d_X_link_106 : decode b_X_link 106 = .ok (.aaload, 1) := by decide +kernel
theorem d_X_link_107 : decode b_X_link 107 = .ok (.iload_n 2, 1) := by decide +kernel
theorem d_X_link_108 : decode b_X_link 108 = .ok (.iload_n 1, 1) := by decide +kernel
theorem d_X_link_109 : decode b_X_link 109 = .ok (.iload_n 3, 1) := by decide +kernel
theorem d_X_link_110 : decode b_X_link 110 = .ok (.iload 4, 2) := by decide +kernel
theorem d_X_link_112 : decode b_X_link 112 = .ok (.iload 5, 2) := by decide +kernel
theorem d_X_link_114 : decode b_X_link 114 = .ok (.invokevirtual 65, 3) := by decide +kernel
theorem d_X_link_117 : decode b_X_link 117 = .ok (.aload_n 0, 1) := by decide +kernel
theorem d_X_link_118 : decode b_X_link 118 = .ok (.dup, 1) := by decide +kernel
theorem d_X_link_119 : decode b_X_link 119 = .ok (.getfield 53, 3) := by decide +kernel
theorem d_X_link_122 : decode b_X_link 122 = .ok (.iconst 1, 1) := by decide +kernel
theorem d_X_link_123 : decode b_X_link 123 = .ok (.iadd, 1) := by decide +kernel
theorem d_X_link_124 : decode b_X_link 124 = .ok (.putfield 53, 3) := by decide +kernel
theorem d_X_link_127 : decode b_X_link 127 = .ok (.aload_n 0, 1) := by decide +kernel
theorem d_X_link_128 : decode b_X_link 128 = .ok (.iload_n 1, 1) := by decide +kernel
theorem d_X_link_129 : decode b_X_link 129 = .ok (.iload_n 2, 1) := by decide +kernel
theorem d_X_link_130 : decode b_X_link 130 = .ok (.iload_n 3, 1) := by decide +kernel
theorem d_X_link_131 : decode b_X_link 131 = .ok (.invokevirtual 69, 3) := by decide +kernel
theorem d_X_link_134 : decode b_X_link 134 = .ok (.aload_n 0, 1) := by decide +kernel
theorem d_X_link_135 : decode b_X_link 135 = .ok (.iload_n 2, 1) := by decide +kernel
theorem d_X_link_136 : decode b_X_link 136 = .ok (.iload_n 1, 1) := by decide +kernel
theorem d_X_link_137 : decode b_X_link 137 = .ok (.iload_n 3, 1) := by decide +kernel
theorem d_X_link_138 : decode b_X_link 138 = .ok (.invokevirtual 69, 3) := by decide +kernel
theorem d_X_link_141 : decode b_X_link 141 = .ok (.iload 6, 2) := by decide +kernel
theorem d_X_link_143 : decode b_X_link 143 = .ok (.ireturn, 1) := by decide +kernel
theorem d_X_isPort_0 : decode b_X_isPort 0 = .ok (.iload_n 1, 1) := by decide +kernel
theorem d_X_isPort_1 : decode b_X_isPort 1 = .ok (.iconst 0, 1) := by decide +kernel
theorem d_X_isPort_2 : decode b_X_isPort 2 = .ok (.iconst 2, 1) := by decide +kernel
theorem d_X_isPort_3 : decode b_X_isPort 3 = .ok (.aload_n 0, 1) := by decide +kernel
theorem d_X_isPort_4 : decode b_X_isPort 4 = .ok (.getfield 53, 3) := by decide +kernel
theorem d_X_isPort_7 : decode b_X_isPort 7 = .ok (.imul, 1) := by decide +kernel
theorem d_X_isPort_8 : decode b_X_isPort 8 = .ok (.iconst 1, 1) := by decide +kernel
theorem d_X_isPort_9 : decode b_X_isPort 9 = .ok (.isub, 1) := by decide +kernel
theorem d_X_isPort_10 : decode b_X_isPort 10 = .ok (.invokestatic 61, 3) := by decide +kernel
theorem d_X_isPort_13 : decode b_X_isPort 13 = .ok (.ireturn, 1) := by decide +kernel
theorem d_X_shape_0 : decode b_X_shape 0 = .ok (.aload_n 0, 1) := by decide +kernel
theorem d_X_shape_1 : decode b_X_shape 1 = .ok (.getfield 49, 3) := by decide +kernel
theorem d_X_shape_4 : decode b_X_shape 4 = .ok (.ifCond .ne 31, 3) := by decide +kernel
theorem d_X_shape_7 : decode b_X_shape 7 = .ok (.aload_n 0, 1) := by decide +kernel
theorem d_X_shape_8 : decode b_X_shape 8 = .ok (.iload_n 1, 1) := by decide +kernel
theorem d_X_shape_9 : decode b_X_shape 9 = .ok (.invokevirtual 73, 3) := by decide +kernel
theorem d_X_shape_12 : decode b_X_shape 12 = .ok (.ifCond .eq 23, 3) := by decide +kernel
theorem d_X_shape_15 : decode b_X_shape 15 = .ok (.iload_n 2, 1) := by decide +kernel
theorem d_X_shape_16 : decode b_X_shape 16 = .ok (.iconst 1, 1) := by decide +kernel
theorem d_X_shape_17 : decode b_X_shape 17 = .ok (.bipush 16, 2) := by decide +kernel
theorem d_X_shape_19 : decode b_X_shape 19 = .ok (.invokestatic 61, 3) := by decide +kernel
theorem d_X_shape_22 : decode b_X_shape 22 = .ok (.ifCond .eq 13, 3) := by decide +kernel
theorem d_X_shape_25 : decode b_X_shape 25 = .ok (.iload_n 3, 1) := by decide +kernel
theorem d_X_shape_26 : decode b_X_shape 26 = .ok (.iconst 1, 1) := by decide +kernel
theorem d_X_shape_27 : decode b_X_shape 27 = .ok (.bipush 8, 2) := by decide +kernel
theorem d_X_shape_29 : decode b_X_shape 29 = .ok (.invokestatic 61, 3) := by decide +kernel
theorem d_X_shape_32 : decode b_X_shape 32 = .ok (.ifCond .ne 5, 3) := by decide +kernel
theorem d_X_shape_35 : decode b_X_shape 35 = .ok (.iconst 0, 1) := by decide +kernel
theorem d_X_shape_36 : decode b_X_shape 36 = .ok (.ireturn, 1) := by decide +kernel
theorem d_X_shape_37 : decode b_X_shape 37 = .ok (.aload_n 0, 1) := by decide +kernel
theorem d_X_shape_38 : decode b_X_shape 38 = .ok (.getfield 16, 3) := by decide +kernel
theorem d_X_shape_41 : decode b_X_shape 41 = .ok (.iload_n 1, 1) := by decide +kernel
theorem d_X_shape_42 : decode b_X_shape 42 = .ok (.aaload, 1) := by decide +kernel
theorem d_X_shape_43 : decode b_X_shape 43 = .ok (.iload_n 2, 1) := by decide +kernel
theorem d_X_shape_44 : decode b_X_shape 44 = .ok (.putfield 76, 3) := by decide +kernel
theorem d_X_shape_47 : decode b_X_shape 47 = .ok (.aload_n 0, 1) := by decide +kernel
theorem d_X_shape_48 : decode b_X_shape 48 = .ok (.getfield 16, 3) := by decide +kernel
theorem d_X_shape_51 : decode b_X_shape 51 = .ok (.iload_n 1, 1) := by decide +kernel
theorem d_X_shape_52 : decode b_X_shape 52 = .ok (.aaload, 1) := by decide +kernel
theorem d_X_shape_53 : decode b_X_shape 53 = .ok (.iload_n 3, 1) := by decide +kernel
theorem d_X_shape_54 : decode b_X_shape 54 = .ok (.putfield 79, 3) := by decide +kernel
theorem d_X_shape_57 : decode b_X_shape 57 = .ok (.iconst 1, 1) := by decide +kernel
theorem d_X_shape_58 : decode b_X_shape 58 = .ok (.ireturn, 1) := by decide +kernel
theorem d_F_found_0 : decode b_F_found 0 = .ok (.aload_n 0, 1) := by decide +kernel
theorem d_F_found_1 : decode b_F_found 1 = .ok (.iload_n 1, 1) := by decide +kernel
theorem d_F_found_2 : decode b_F_found 2 = .ok (.putfield 9, 3) := by decide +kernel
theorem d_F_found_5 : decode b_F_found 5 = .ok (.aload_n 0, 1) := by decide +kernel
theorem d_F_found_6 : decode b_F_found 6 = .ok (.iload_n 2, 1) := by decide +kernel
theorem d_F_found_7 : decode b_F_found 7 = .ok (.putfield 15, 3) := by decide +kernel
theorem d_F_found_10 : decode b_F_found 10 = .ok (.aload_n 0, 1) := by decide +kernel
theorem d_F_found_11 : decode b_F_found 11 = .ok (.iload_n 3, 1) := by decide +kernel
theorem d_F_found_12 : decode b_F_found 12 = .ok (.putfield 18, 3) := by decide +kernel
theorem d_F_found_15 : decode b_F_found 15 = .ok (.aload_n 0, 1) := by decide +kernel
theorem d_F_found_16 : decode b_F_found 16 = .ok (.iload 4, 2) := by decide +kernel
theorem d_F_found_18 : decode b_F_found 18 = .ok (.putfield 21, 3) := by decide +kernel
theorem d_F_found_21 : decode b_F_found 21 = .ok (.aload_n 0, 1) := by decide +kernel
theorem d_F_found_22 : decode b_F_found 22 = .ok (.iconst 4, 1) := by decide +kernel
theorem d_F_found_23 : decode b_F_found 23 = .ok (.putfield 24, 3) := by decide +kernel
theorem d_F_found_26 : decode b_F_found 26 = .ok (.aload_n 0, 1) := by decide +kernel
theorem d_F_found_27 : decode b_F_found 27 = .ok (.bipush 100, 2) := by decide +kernel
theorem d_F_found_29 : decode b_F_found 29 = .ok (.putfield 27, 3) := by decide +kernel
theorem d_F_found_32 : decode b_F_found 32 = .ok (.aload_n 0, 1) := by decide +kernel
theorem d_F_found_33 : decode b_F_found 33 = .ok (.iconst 0, 1) := by decide +kernel
theorem d_F_found_34 : decode b_F_found 34 = .ok (.putfield 30, 3) := by decide +kernel
theorem d_F_found_37 : decode b_F_found 37 = .ok (.aload_n 0, 1) := by decide +kernel
theorem d_F_found_38 : decode b_F_found 38 = .ok (.iconst 0, 1) := by decide +kernel
theorem d_F_found_39 : decode b_F_found 39 = .ok (.putfield 33, 3) := by decide +kernel
theorem d_F_found_42 : decode b_F_found 42 = .ok (.aload_n 0, 1) := by decide +kernel
theorem d_F_found_43 : decode b_F_found 43 = .ok (.iconst 0, 1) := by decide +kernel
theorem d_F_found_44 : decode b_F_found 44 = .ok (.putfield 36, 3) := by decide +kernel
theorem d_F_found_47 : decode b_F_found 47 = .ok (.aload_n 0, 1) := by decide +kernel
theorem d_F_found_48 : decode b_F_found 48 = .ok (.iconst 0, 1) := by decide +kernel
theorem d_F_found_49 : decode b_F_found 49 = .ok (.putfield 39, 3) := by decide +kernel
theorem d_F_found_52 : decode b_F_found 52 = .ok (.aload_n 0, 1) := by decide +kernel
theorem d_F_found_53 : decode b_F_found 53 = .ok (.iconst 0, 1) := by decide +kernel
theorem d_F_found_54 : decode b_F_found 54 = .ok (.putfield 42, 3) := by decide +kernel
theorem d_F_found_57 : decode b_F_found 57 = .ok (.aload_n 0, 1) := by decide +kernel
theorem d_F_found_58 : decode b_F_found 58 = .ok (.iconst 0, 1) := by decide +kernel
theorem d_F_found_59 : decode b_F_found 59 = .ok (.putfield 45, 3) := by decide +kernel
theorem d_F_found_62 : decode b_F_found 62 = .ok (.aload_n 0, 1) := by decide +kernel
theorem d_F_found_63 : decode b_F_found 63 = .ok (.iconst 0, 1) := by decide +kernel
theorem d_F_found_64 : decode b_F_found 64 = .ok (.putfield 48, 3) := by decide +kernel
theorem d_F_found_67 : decode b_F_found 67 = .ok (.aload_n 0, 1) := by decide +kernel
theorem d_F_found_68 : decode b_F_found 68 = .ok (.iconst 0, 1) := by decide +kernel
theorem d_F_found_69 : decode b_F_found 69 = .ok (.putfield 51, 3) := by decide +kernel
theorem d_F_found_72 : decode b_F_found 72 = .ok (.return_, 1) := by decide +kernel
theorem d_X_flow_0 : decode b_X_flow 0 = .ok (.aload_n 0, 1) := by decide +kernel
theorem d_X_flow_1 : decode b_X_flow 1 = .ok (.getfield 49, 3) := by decide +kernel
theorem d_X_flow_4 : decode b_X_flow 4 = .ok (.ifCond .ne 31, 3) := by decide +kernel
theorem d_X_flow_7 : decode b_X_flow 7 = .ok (.aload_n 0, 1) := by decide +kernel
theorem d_X_flow_8 : decode b_X_flow 8 = .ok (.getfield 82, 3) := by decide +kernel
theorem d_X_flow_11 : decode b_X_flow 11 = .ok (.bipush 6, 2) := by decide +kernel
theorem d_X_flow_13 : decode b_X_flow 13 = .ok (.if_icmp .ge 22, 3) := by decide +kernel
theorem d_X_flow_16 : decode b_X_flow 16 = .ok (.iload_n 1, 1) := by decide +kernel
theorem d_X_flow_17 : decode b_X_flow 17 = .ok (.invokestatic 57, 3) := by decide +kernel
theorem d_X_flow_20 : decode b_X_flow 20 = .ok (.ifCond .eq 15, 3) := by decide +kernel
theorem d_X_flow_23 : decode b_X_flow 23 = .ok (.iload_n 2, 1) := by decide +kernel
theorem d_X_flow_24 : decode b_X_flow 24 = .ok (.invokestatic 57, 3) := by decide +kernel
theorem d_X_flow_27 : decode b_X_flow 27 = .ok (.ifCond .eq 8, 3) := by decide +kernel
theorem d_X_flow_30 : decode b_X_flow 30 = .ok (.iload_n 1, 1) := by decide +kernel
theorem d_X_flow_31 : decode b_X_flow 31 = .ok (.iload_n 2, 1) := by decide +kernel
theorem d_X_flow_32 : decode b_X_flow 32 = .ok (.if_icmp .ne 5, 3) := by decide +kernel
theorem d_X_flow_35 : decode b_X_flow 35 = .ok (.iconst (-1), 1) := by decide +kernel
theorem d_X_flow_36 : decode b_X_flow 36 = .ok (.ireturn, 1) := by decide +kernel
theorem d_X_flow_37 : decode b_X_flow 37 = .ok (.iload_n 3, 1) := by decide +kernel
theorem d_X_flow_38 : decode b_X_flow 38 = .ok (.iconst 1, 1) := by decide +kernel
theorem d_X_flow_39 : decode b_X_flow 39 = .ok (.bipush 100, 2) := by decide +kernel
theorem d_X_flow_41 : decode b_X_flow 41 = .ok (.invokestatic 61, 3) := by decide +kernel
theorem d_X_flow_44 : decode b_X_flow 44 = .ok (.ifCond .eq 14, 3) := by decide +kernel
theorem d_X_flow_47 : decode b_X_flow 47 = .ok (.iload 4, 2) := by decide +kernel
theorem d_X_flow_49 : decode b_X_flow 49 = .ok (.iconst 1, 1) := by decide +kernel
theorem d_X_flow_50 : decode b_X_flow 50 = .ok (.bipush 8, 2) := by decide +kernel
theorem d_X_flow_52 : decode b_X_flow 52 = .ok (.invokestatic 61, 3) := by decide +kernel
theorem d_X_flow_55 : decode b_X_flow 55 = .ok (.ifCond .ne 5, 3) := by decide +kernel
theorem d_X_flow_58 : decode b_X_flow 58 = .ok (.iconst (-1), 1) := by decide +kernel
theorem d_X_flow_59 : decode b_X_flow 59 = .ok (.ireturn, 1) := by decide +kernel
theorem d_X_flow_60 : decode b_X_flow 60 = .ok (.aload_n 0, 1) := by decide +kernel
theorem d_X_flow_61 : decode b_X_flow 61 = .ok (.getfield 82, 3) := by decide +kernel
theorem d_X_flow_64 : decode b_X_flow 64 = .ok (.istore 5, 2) := by decide +kernel
theorem d_X_flow_66 : decode b_X_flow 66 = .ok (.aload_n 0, 1) := by decide +kernel
theorem d_X_flow_67 : decode b_X_flow 67 = .ok (.getfield 23, 3) := by decide +kernel
theorem d_X_flow_70 : decode b_X_flow 70 = .ok (.iload 5, 2) := by decide +kernel
theorem d_X_flow_72 : decode b_X_flow 72 = .ok (.aaload, 1) := by decide +kernel
theorem d_X_flow_73 : decode b_X_flow 73 = .ok (.iload_n 1, 1) := by decide +kernel
theorem d_X_flow_74 : decode b_X_flow 74 = .ok (.iload_n 2, 1) := by decide +kernel
theorem d_X_flow_75 : decode b_X_flow 75 = .ok (.iload_n 3, 1) := by decide +kernel
theorem d_X_flow_76 : decode b_X_flow 76 = .ok (.iload 4, 2) := by decide +kernel
theorem d_X_flow_78 : decode b_X_flow 78 = .ok (.invokevirtual 85, 3) := by decide +kernel
theorem d_X_flow_81 : decode b_X_flow 81 = .ok (.aload_n 0, 1) := by decide +kernel
theorem d_X_flow_82 : decode b_X_flow 82 = .ok (.dup, 1) := by decide +kernel
theorem d_X_flow_83 : decode b_X_flow 83 = .ok (.getfield 82, 3) := by decide +kernel
theorem d_X_flow_86 : decode b_X_flow 86 = .ok (.iconst 1, 1) := by decide +kernel
theorem d_X_flow_87 : decode b_X_flow 87 = .ok (.iadd, 1) := by decide +kernel
theorem d_X_flow_88 : decode b_X_flow 88 = .ok (.putfield 82, 3) := by decide +kernel
theorem d_X_flow_91 : decode b_X_flow 91 = .ok (.iload 5, 2) := by decide +kernel
theorem d_X_flow_93 : decode b_X_flow 93 = .ok (.ireturn, 1) := by decide +kernel
theorem d_X_isFlow_0 : decode b_X_isFlow 0 = .ok (.iload_n 1, 1) := by decide +kernel
theorem d_X_isFlow_1 : decode b_X_isFlow 1 = .ok (.iconst 0, 1) := by decide +kernel
theorem d_X_isFlow_2 : decode b_X_isFlow 2 = .ok (.aload_n 0, 1) := by decide +kernel
theorem d_X_isFlow_3 : decode b_X_isFlow 3 = .ok (.getfield 82, 3) := by decide +kernel
theorem d_X_isFlow_6 : decode b_X_isFlow 6 = .ok (.iconst 1, 1) := by decide +kernel
theorem d_X_isFlow_7 : decode b_X_isFlow 7 = .ok (.isub, 1) := by decide +kernel
theorem d_X_isFlow_8 : decode b_X_isFlow 8 = .ok (.invokestatic 61, 3) := by decide +kernel
theorem d_X_isFlow_11 : decode b_X_isFlow 11 = .ok (.ireturn, 1) := by decide +kernel
theorem d_X_tune_0 : decode b_X_tune 0 = .ok (.aload_n 0, 1) := by decide +kernel
theorem d_X_tune_1 : decode b_X_tune 1 = .ok (.getfield 49, 3) := by decide +kernel
theorem d_X_tune_4 : decode b_X_tune 4 = .ok (.ifCond .ne 21, 3) := by decide +kernel
theorem d_X_tune_7 : decode b_X_tune 7 = .ok (.aload_n 0, 1) := by decide +kernel
theorem d_X_tune_8 : decode b_X_tune 8 = .ok (.iload_n 1, 1) := by decide +kernel
theorem d_X_tune_9 : decode b_X_tune 9 = .ok (.invokevirtual 89, 3) := by decide +kernel
theorem d_X_tune_12 : decode b_X_tune 12 = .ok (.ifCond .eq 13, 3) := by decide +kernel
theorem d_X_tune_15 : decode b_X_tune 15 = .ok (.iload_n 2, 1) := by decide +kernel
theorem d_X_tune_16 : decode b_X_tune 16 = .ok (.iconst 1, 1) := by decide +kernel
theorem d_X_tune_17 : decode b_X_tune 17 = .ok (.bipush 8, 2) := by decide +kernel
theorem d_X_tune_19 : decode b_X_tune 19 = .ok (.invokestatic 61, 3) := by decide +kernel
theorem d_X_tune_22 : decode b_X_tune 22 = .ok (.ifCond .ne 5, 3) := by decide +kernel
theorem d_X_tune_25 : decode b_X_tune 25 = .ok (.iconst 0, 1) := by decide +kernel
theorem d_X_tune_26 : decode b_X_tune 26 = .ok (.ireturn, 1) := by decide +kernel
theorem d_X_tune_27 : decode b_X_tune 27 = .ok (.iload_n 3, 1) := by decide +kernel
theorem d_X_tune_28 : decode b_X_tune 28 = .ok (.iconst 1, 1) := by decide +kernel
theorem d_X_tune_29 : decode b_X_tune 29 = .ok (.sipush 200, 3) := by decide +kernel
theorem d_X_tune_32 : decode b_X_tune 32 = .ok (.invokestatic 61, 3) := by decide +kernel
theorem d_X_tune_35 : decode b_X_tune 35 = .ok (.ifCond .eq 15, 3) := by decide +kernel
theorem d_X_tune_38 : decode b_X_tune 38 = .ok (.iload 4, 2) := by decide +kernel
theorem d_X_tune_40 : decode b_X_tune 40 = .ok (.iconst 0, 1) := by decide +kernel
theorem d_X_tune_41 : decode b_X_tune 41 = .ok (.sipush 1000, 3) := by decide +kernel
theorem d_X_tune_44 : decode b_X_tune 44 = .ok (.invokestatic 61, 3) := by decide +kernel
theorem d_X_tune_47 : decode b_X_tune 47 = .ok (.ifCond .ne 5, 3) := by decide +kernel
theorem d_X_tune_50 : decode b_X_tune 50 = .ok (.iconst 0, 1) := by decide +kernel
theorem d_X_tune_51 : decode b_X_tune 51 = .ok (.ireturn, 1) := by decide +kernel
theorem d_X_tune_52 : decode b_X_tune 52 = .ok (.aload_n 0, 1) := by decide +kernel
theorem d_X_tune_53 : decode b_X_tune 53 = .ok (.getfield 23, 3) := by decide +kernel
theorem d_X_tune_56 : decode b_X_tune 56 = .ok (.iload_n 1, 1) := by decide +kernel
theorem d_X_tune_57 : decode b_X_tune 57 = .ok (.aaload, 1) := by decide +kernel
theorem d_X_tune_58 : decode b_X_tune 58 = .ok (.iload_n 2, 1) := by decide +kernel
theorem d_X_tune_59 : decode b_X_tune 59 = .ok (.putfield 92, 3) := by decide +kernel
theorem d_X_tune_62 : decode b_X_tune 62 = .ok (.aload_n 0, 1) := by decide +kernel
theorem d_X_tune_63 : decode b_X_tune 63 = .ok (.getfield 23, 3) := by decide +kernel
theorem d_X_tune_66 : decode b_X_tune 66 = .ok (.iload_n 1, 1) := by decide +kernel
theorem d_X_tune_67 : decode b_X_tune 67 = .ok (.aaload, 1) := by decide +kernel
theorem d_X_tune_68 : decode b_X_tune 68 = .ok (.iload_n 3, 1) := by decide +kernel
theorem d_X_tune_69 : decode b_X_tune 69 = .ok (.putfield 95, 3) := by decide +kernel
theorem d_X_tune_72 : decode b_X_tune 72 = .ok (.aload_n 0, 1) := by decide +kernel
theorem d_X_tune_73 : decode b_X_tune 73 = .ok (.getfield 23, 3) := by decide +kernel
theorem d_X_tune_76 : decode b_X_tune 76 = .ok (.iload_n 1, 1) := by decide +kernel
theorem d_X_tune_77 : decode b_X_tune 77 = .ok (.aaload, 1) := by decide +kernel
theorem d_X_tune_78 : decode b_X_tune 78 = .ok (.iload 4, 2) := by decide +kernel
theorem d_X_tune_80 : decode b_X_tune 80 = .ok (.putfield 98, 3) := by decide +kernel
theorem d_X_tune_83 : decode b_X_tune 83 = .ok (.iconst 1, 1) := by decide +kernel
theorem d_X_tune_84 : decode b_X_tune 84 = .ok (.ireturn, 1) := by decide +kernel
theorem d_A_unsetAll_0 : decode b_A_unsetAll 0 = .ok (.aload_n 0, 1) := by decide +kernel
theorem d_A_unsetAll_1 : decode b_A_unsetAll 1 = .ok (.getfield 9, 3) := by decide +kernel
theorem d_A_unsetAll_4 : decode b_A_unsetAll 4 = .ok (.iconst 0, 1) := by decide +kernel
theorem d_A_unsetAll_5 : decode b_A_unsetAll 5 = .ok (.invokestatic 21, 3) := by decide +kernel
theorem d_A_unsetAll_8 : decode b_A_unsetAll 8 = .ok (.aload_n 0, 1) := by decide +kernel
theorem d_A_unsetAll_9 : decode b_A_unsetAll 9 = .ok (.iconst 0, 1) := by decide +kernel
theorem d_A_unsetAll_10 : decode b_A_unsetAll 10 = .ok (.putfield 27, 3) := by decide +kernel
theorem d_A_unsetAll_13 : decode b_A_unsetAll 13 = .ok (.return_, 1) := by decide +kernel
theorem d_J_fill1_0 : decode b_J_fill1 0 = .ok (.iconst 0, 1) := by decide +kernel
theorem d_J_fill1_1 : decode b_J_fill1 1 = .ok (.istore_n 3, 1) := by decide +kernel
theorem d_J_fill1_2 : decode b_J_fill1 2 = .ok (.aload_n 0, 1) := by decide +kernel
theorem d_J_fill1_3 : decode b_J_fill1 3 = .ok (.arraylength, 1) := by decide +kernel
theorem d_J_fill1_4 : decode b_J_fill1 4 = .ok (.istore 4, 2) := by decide +kernel
theorem d_J_fill1_6 : decode b_J_fill1 6 = .ok (.iload_n 3, 1) := by decide +kernel
theorem d_J_fill1_7 : decode b_J_fill1 7 = .ok (.iload 4, 2) := by decide +kernel
theorem d_J_fill1_9 : decode b_J_fill1 9 = .ok (.if_icmp .ge 13, 3) := by decide +kernel
theorem d_J_fill1_12 : decode b_J_fill1 12 = .ok (.aload_n 0, 1) := by decide +kernel
theorem d_J_fill1_13 : decode b_J_fill1 13 = .ok (.iload_n 3, 1) := by decide +kernel
theorem d_J_fill1_14 : decode b_J_fill1 14 = .ok (.lload_n 1, 1) := by decide +kernel
theorem d_J_fill1_15 : decode b_J_fill1 15 = .ok (.lastore, 1) := by decide +kernel
theorem d_J_fill1_16 : decode b_J_fill1 16 = .ok (.iinc 3 1, 3) := by decide +kernel
theorem d_J_fill1_19 : decode b_J_fill1 19 = .ok (.goto (-13), 3) := by decide +kernel
theorem d_J_fill1_22 : decode b_J_fill1 22 = .ok (.return_, 1) := by decide +kernel
theorem d_X_clear_0 : decode b_X_clear 0 = .ok (.aload_n 0, 1) := by decide +kernel
theorem d_X_clear_1 : decode b_X_clear 1 = .ok (.iconst 0, 1) := by decide +kernel
theorem d_X_clear_2 : decode b_X_clear 2 = .ok (.putfield 49, 3) := by decide +kernel
theorem d_X_clear_5 : decode b_X_clear 5 = .ok (.aload_n 0, 1) := by decide +kernel
theorem d_X_clear_6 : decode b_X_clear 6 = .ok (.iconst 0, 1) := by decide +kernel
theorem d_X_clear_7 : decode b_X_clear 7 = .ok (.putfield 101, 3) := by decide +kernel
theorem d_X_clear_10 : decode b_X_clear 10 = .ok (.aload_n 0, 1) := by decide +kernel
theorem d_X_clear_11 : decode b_X_clear 11 = .ok (.iconst 0, 1) := by decide +kernel
theorem d_X_clear_12 : decode b_X_clear 12 = .ok (.putfield 53, 3) := by decide +kernel
theorem d_X_clear_15 : decode b_X_clear 15 = .ok (.aload_n 0, 1) := by decide +kernel
theorem d_X_clear_16 : decode b_X_clear 16 = .ok (.iconst 0, 1) := by decide +kernel
theorem d_X_clear_17 : decode b_X_clear 17 = .ok (.putfield 82, 3) := by decide +kernel
theorem d_X_clear_20 : decode b_X_clear 20 = .ok (.iconst 0, 1) := by decide +kernel
theorem d_X_clear_21 : decode b_X_clear 21 = .ok (.istore_n 1, 1) := by decide +kernel
theorem d_X_clear_22 : decode b_X_clear 22 = .ok (.iload_n 1, 1) := by decide +kernel
theorem d_X_clear_23 : decode b_X_clear 23 = .ok (.bipush 8, 2) := by decide +kernel
theorem d_X_clear_25 : decode b_X_clear 25 = .ok (.if_icmp .ge 28, 3) := by decide +kernel
theorem d_X_clear_28 : decode b_X_clear 28 = .ok (.aload_n 0, 1) := by decide +kernel
theorem d_X_clear_29 : decode b_X_clear 29 = .ok (.getfield 11, 3) := by decide +kernel
theorem d_X_clear_32 : decode b_X_clear 32 = .ok (.iload_n 1, 1) := by decide +kernel
theorem d_X_clear_33 : decode b_X_clear 33 = .ok (.aaload, 1) := by decide +kernel
theorem d_X_clear_34 : decode b_X_clear 34 = .ok (.iconst (-1), 1) := by decide +kernel
theorem d_X_clear_35 : decode b_X_clear 35 = .ok (.invokestatic 104, 3) := by decide +kernel
theorem d_X_clear_38 : decode b_X_clear 38 = .ok (.aload_n 0, 1) := by decide +kernel
theorem d_X_clear_39 : decode b_X_clear 39 = .ok (.getfield 11, 3) := by decide +kernel
theorem d_X_clear_42 : decode b_X_clear 42 = .ok (.iload_n 1, 1) := by decide +kernel
theorem d_X_clear_43 : decode b_X_clear 43 = .ok (.aaload, 1) := by decide +kernel
theorem d_X_clear_44 : decode b_X_clear 44 = .ok (.iload_n 1, 1) := by decide +kernel
theorem d_X_clear_45 : decode b_X_clear 45 = .ok (.iconst 0, 1) := by decide +kernel
theorem d_X_clear_46 : decode b_X_clear 46 = .ok (.iastore, 1) := by decide +kernel
theorem d_X_clear_47 : decode b_X_clear 47 = .ok (.iinc 1 1, 3) := by decide +kernel
theorem d_X_clear_50 : decode b_X_clear 50 = .ok (.goto (-28), 3) := by decide +kernel
theorem d_X_clear_53 : decode b_X_clear 53 = .ok (.iconst 0, 1) := by decide +kernel
theorem d_X_clear_54 : decode b_X_clear 54 = .ok (.istore_n 1, 1) := by decide +kernel
theorem d_X_clear_55 : decode b_X_clear 55 = .ok (.iload_n 1, 1) := by decide +kernel
theorem d_X_clear_56 : decode b_X_clear 56 = .ok (.bipush 64, 2) := by decide +kernel
theorem d_X_clear_58 : decode b_X_clear 58 = .ok (.if_icmp .ge 19, 3) := by decide +kernel
theorem d_X_clear_61 : decode b_X_clear 61 = .ok (.aload_n 0, 1) := by decide +kernel
theorem d_X_clear_62 : decode b_X_clear 62 = .ok (.getfield 30, 3) := by decide +kernel
theorem d_X_clear_65 : decode b_X_clear 65 = .ok (.iload_n 1, 1) := by decide +kernel
theorem d_X_clear_66 : decode b_X_clear 66 = .ok (.aaload, 1) := by decide +kernel
theorem d_X_clear_67 : decode b_X_clear 67 = .ok (.iconst 0, 1) := by decide +kernel
theorem d_X_clear_68 : decode b_X_clear 68 = .ok (.putfield 110, 3) := by decide +kernel
theorem d_X_clear_71 : decode b_X_clear 71 = .ok (.iinc 1 1, 3) := by decide +kernel
theorem d_X_clear_74 : decode b_X_clear 74 = .ok (.goto (-19), 3) := by decide +kernel
theorem d_X_clear_77 : decode b_X_clear 77 = .ok (.aload_n 0, 1) := by decide +kernel
theorem d_X_clear_78 : decode b_X_clear 78 = .ok (.getfield 38, 3) := by decide +kernel
theorem d_X_clear_81 : decode b_X_clear 81 = .ok (.invokevirtual 113, 3) := by decide +kernel
theorem d_X_clear_84 : decode b_X_clear 84 = .ok (.aload_n 0, 1) := by decide +kernel
theorem d_X_clear_85 : decode b_X_clear 85 = .ok (.getfield 42, 3) := by decide +kernel
theorem d_X_clear_88 : decode b_X_clear 88 = .ok (.ldc2_w 116, 3) := by decide +kernel
theorem d_X_clear_91 : decode b_X_clear 91 = .ok (.invokestatic 118, 3) := by decide +kernel
theorem d_X_clear_94 : decode b_X_clear 94 = .ok (.return_, 1) := by decide +kernel
theorem d_A_set_0 : decode b_A_set 0 = .ok (.aload_n 0, 1) := by decide +kernel
theorem d_A_set_1 : decode b_A_set 1 = .ok (.getfield 9, 3) := by decide +kernel
theorem d_A_set_4 : decode b_A_set 4 = .ok (.iload_n 1, 1) := by decide +kernel
theorem d_A_set_5 : decode b_A_set 5 = .ok (.iload_n 2, 1) := by decide +kernel
theorem d_A_set_6 : decode b_A_set 6 = .ok (.iastore, 1) := by decide +kernel
theorem d_A_set_7 : decode b_A_set 7 = .ok (.aload_n 0, 1) := by decide +kernel
theorem d_A_set_8 : decode b_A_set 8 = .ok (.getfield 15, 3) := by decide +kernel
theorem d_A_set_11 : decode b_A_set 11 = .ok (.iload_n 1, 1) := by decide +kernel
theorem d_A_set_12 : decode b_A_set 12 = .ok (.iload_n 3, 1) := by decide +kernel
theorem d_A_set_13 : decode b_A_set 13 = .ok (.iastore, 1) := by decide +kernel
theorem d_A_set_14 : decode b_A_set 14 = .ok (.aload_n 0, 1) := by decide +kernel
theorem d_A_set_15 : decode b_A_set 15 = .ok (.getfield 18, 3) := by decide +kernel
theorem d_A_set_18 : decode b_A_set 18 = .ok (.iload_n 1, 1) := by decide +kernel
theorem d_A_set_19 : decode b_A_set 19 = .ok (.aload_n 0, 1) := by decide +kernel
theorem d_A_set_20 : decode b_A_set 20 = .ok (.getfield 27, 3) := by decide +kernel
theorem d_A_set_23 : decode b_A_set 23 = .ok (.iastore, 1) := by decide +kernel
theorem d_A_set_24 : decode b_A_set 24 = .ok (.aload_n 0, 1) := by decide +kernel
theorem d_A_set_25 : decode b_A_set 25 = .ok (.dup, 1) := by decide +kernel
theorem d_A_set_26 : decode b_A_set 26 = .ok (.getfield 27, 3) := by decide +kernel
theorem d_A_set_29 : decode b_A_set 29 = .ok (.iconst 1, 1) := by decide +kernel
theorem d_A_set_30 : decode b_A_set 30 = .ok (.iadd, 1) := by decide +kernel
theorem d_A_set_31 : decode b_A_set 31 = .ok (.putfield 27, 3) := by decide +kernel
theorem d_A_set_34 : decode b_A_set 34 = .ok (.return_, 1) := by decide +kernel
theorem d_X_begin_0 : decode b_X_begin 0 = .ok (.aload_n 0, 1) := by decide +kernel
theorem d_X_begin_1 : decode b_X_begin 1 = .ok (.getfield 49, 3) := by decide +kernel
theorem d_X_begin_4 : decode b_X_begin 4 = .ok (.ifCond .eq 4, 3) := by decide +kernel
theorem d_X_begin_7 : decode b_X_begin 7 = .ok (.return_, 1) := by decide +kernel
theorem d_X_begin_8 : decode b_X_begin 8 = .ok (.aload_n 0, 1) := by decide +kernel
theorem d_X_begin_9 : decode b_X_begin 9 = .ok (.iconst 1, 1) := by decide +kernel
theorem d_X_begin_10 : decode b_X_begin 10 = .ok (.putfield 49, 3) := by decide +kernel
theorem d_X_begin_13 : decode b_X_begin 13 = .ok (.iconst 0, 1) := by decide +kernel
theorem d_X_begin_14 : decode b_X_begin 14 = .ok (.istore_n 1, 1) := by decide +kernel
theorem d_X_begin_15 : decode b_X_begin 15 = .ok (.iload_n 1, 1) := by decide +kernel
theorem d_X_begin_16 : decode b_X_begin 16 = .ok (.aload_n 0, 1) := by decide +kernel
theorem d_X_begin_17 : decode b_X_begin 17 = .ok (.getfield 82, 3) := by decide +kernel
theorem d_X_begin_20 : decode b_X_begin 20 = .ok (.if_icmp .ge 27, 3) := by decide +kernel
theorem d_X_begin_23 : decode b_X_begin 23 = .ok (.aload_n 0, 1) := by decide +kernel
theorem d_X_begin_24 : decode b_X_begin 24 = .ok (.getfield 38, 3) := by decide +kernel
theorem d_X_begin_27 : decode b_X_begin 27 = .ok (.iload_n 1, 1) := by decide +kernel
theorem d_X_begin_28 : decode b_X_begin 28 = .ok (.iconst 1, 1) := by decide +kernel
theorem d_X_begin_29 : decode b_X_begin 29 = .ok (.aload_n 0, 1) := by decide +kernel
theorem d_X_begin_30 : decode b_X_begin 30 = .ok (.getfield 23, 3) := by decide +kernel
theorem d_X_begin_33 : decode b_X_begin 33 = .ok (.iload_n 1, 1) := by decide +kernel
theorem d_X_begin_34 : decode b_X_begin 34 = .ok (.aaload, 1) := by decide +kernel
theorem d_X_begin_35 : decode b_X_begin 35 = .ok (.getfield 98, 3) := by decide +kernel
theorem d_X_begin_38 : decode b_X_begin 38 = .ok (.invokevirtual 185, 3) := by decide +kernel
theorem d_X_begin_41 : decode b_X_begin 41 = .ok (.iinc 1 1, 3) := by decide +kernel
theorem d_X_begin_44 : decode b_X_begin 44 = .ok (.goto (-29), 3) := by decide +kernel
theorem d_X_begin_47 : decode b_X_begin 47 = .ok (.return_, 1) := by decide +kernel
theorem d_A_isBefore_0 : decode b_A_isBefore 0 = .ok (.aload_n 0, 1) := by decide +kernel
theorem d_A_isBefore_1 : decode b_A_isBefore 1 = .ok (.getfield 15, 3) := by decide +kernel
theorem d_A_isBefore_4 : decode b_A_isBefore 4 = .ok (.iload_n 1, 1) := by decide +kernel
theorem d_A_isBefore_5 : decode b_A_isBefore 5 = .ok (.iaload, 1) := by decide +kernel
theorem d_A_isBefore_6 : decode b_A_isBefore 6 = .ok (.aload_n 0, 1) := by decide +kernel
theorem d_A_isBefore_7 : decode b_A_isBefore 7 = .ok (.getfield 15, 3) := by decide +kernel
theorem d_A_isBefore_10 : decode b_A_isBefore 10 = .ok (.iload_n 2, 1) := by decide +kernel
theorem d_A_isBefore_11 : decode b_A_isBefore 11 = .ok (.iaload, 1) := by decide +kernel
theorem d_A_isBefore_12 : decode b_A_isBefore 12 = .ok (.if_icmp .lt 33, 3) := by decide +kernel
theorem d_A_isBefore_15 : decode b_A_isBefore 15 = .ok (.aload_n 0, 1) := by decide +kernel
theorem d_A_isBefore_16 : decode b_A_isBefore 16 = .ok (.getfield 15, 3) := by decide +kernel
theorem d_A_isBefore_19 : decode b_A_isBefore 19 = .ok (.iload_n 1, 1) := by decide +kernel
theorem d_A_isBefore_20 : decode b_A_isBefore 20 = .ok (.iaload, 1) := by decide +kernel
theorem d_A_isBefore_21 : decode b_A_isBefore 21 = .ok (.aload_n 0, 1) := by decide +kernel
theorem d_A_isBefore_22 : decode b_A_isBefore 22 = .ok (.getfield 15, 3) := by decide +kernel
theorem d_A_isBefore_25 : decode b_A_isBefore 25 = .ok (.iload_n 2, 1) := by decide +kernel
theorem d_A_isBefore_26 : decode b_A_isBefore 26 = .ok (.iaload, 1) := by decide +kernel
theorem d_A_isBefore_27 : decode b_A_isBefore 27 = .ok (.if_icmp .ne 22, 3) := by decide +kernel
theorem d_A_isBefore_30 : decode b_A_isBefore 30 = .ok (.aload_n 0, 1) := by decide +kernel
theorem d_A_isBefore_31 : decode b_A_isBefore 31 = .ok (.getfield 18, 3) := by decide +kernel
theorem d_A_isBefore_34 : decode b_A_isBefore 34 = .ok (.iload_n 1, 1) := by decide +kernel
theorem d_A_isBefore_35 : decode b_A_isBefore 35 = .ok (.iaload, 1) := by decide +kernel
theorem d_A_isBefore_36 : decode b_A_isBefore 36 = .ok (.aload_n 0, 1) := by decide +kernel
theorem d_A_isBefore_37 : decode b_A_isBefore 37 = .ok (.getfield 18, 3) := by decide +kernel
theorem d_A_isBefore_40 : decode b_A_isBefore 40 = .ok (.iload_n 2, 1) := by decide +kernel
theorem d_A_isBefore_41 : decode b_A_isBefore 41 = .ok (.iaload, 1) := by decide +kernel
theorem d_A_isBefore_42 : decode b_A_isBefore 42 = .ok (.if_icmp .ge 7, 3) := by decide +kernel
theorem d_A_isBefore_45 : decode b_A_isBefore 45 = .ok (.iconst 1, 1) := by decide +kernel
theorem d_A_isBefore_46 : decode b_A_isBefore 46 = .ok (.goto 4, 3) := by decide +kernel
theorem d_A_isBefore_49 : decode b_A_isBefore 49 = .ok (.iconst 0, 1) := by decide +kernel
theorem d_A_isBefore_50 : decode b_A_isBefore 50 = .ok (.ireturn, 1) := by decide +kernel
theorem d_A_firstSlot_0 : decode b_A_firstSlot 0 = .ok (.iconst (-1), 1) := by decide +kernel
theorem d_A_firstSlot_1 : decode b_A_firstSlot 1 = .ok (.istore_n 1, 1) := by decide +kernel
theorem d_A_firstSlot_2 : decode b_A_firstSlot 2 = .ok (.iconst 0, 1) := by decide +kernel
theorem d_A_firstSlot_3 : decode b_A_firstSlot 3 = .ok (.istore_n 2, 1) := by decide +kernel
theorem d_A_firstSlot_4 : decode b_A_firstSlot 4 = .ok (.iload_n 2, 1) := by decide +kernel
theorem d_A_firstSlot_5 : decode b_A_firstSlot 5 = .ok (.bipush 70, 2) := by decide +kernel
theorem d_A_firstSlot_7 : decode b_A_firstSlot 7 = .ok (.if_icmp .ge 34, 3) := by decide +kernel
theorem d_A_firstSlot_10 : decode b_A_firstSlot 10 = .ok (.aload_n 0, 1) := by decide +kernel
theorem d_A_firstSlot_11 : decode b_A_firstSlot 11 = .ok (.getfield 9, 3) := by decide +kernel
theorem d_A_firstSlot_14 : decode b_A_firstSlot 14 = .ok (.iload_n 2, 1) := by decide +kernel
theorem d_A_firstSlot_15 : decode b_A_firstSlot 15 = .ok (.iaload, 1) := by decide +kernel
theorem d_A_firstSlot_16 : decode b_A_firstSlot 16 = .ok (.ifCond .eq 19, 3) := by decide +kernel
theorem d_A_firstSlot_19 : decode b_A_firstSlot 19 = .ok (.iload_n 1, 1) := by decide +kernel
theorem d_A_firstSlot_20 : decode b_A_firstSlot 20 = .ok (.iconst (-1), 1) := by decide +kernel
theorem d_A_firstSlot_21 : decode b_A_firstSlot 21 = .ok (.if_icmp .eq 12, 3) := by decide +kernel
theorem d_A_firstSlot_24 : decode b_A_firstSlot 24 = .ok (.aload_n 0, 1) := by decide +kernel
theorem d_A_firstSlot_25 : decode b_A_firstSlot 25 = .ok (.iload_n 2, 1) := by decide +kernel
theorem d_A_firstSlot_26 : decode b_A_firstSlot 26 = .ok (.iload_n 1, 1) := by decide +kernel
theorem d_A_firstSlot_27 : decode b_A_firstSlot 27 = .ok (.invokevirtual 31, 3) := by decide +kernel
theorem d_A_firstSlot_30 : decode b_A_firstSlot 30 = .ok (.ifCond .eq 5, 3) := by decide +kernel
theorem d_A_firstSlot_33 : decode b_A_firstSlot 33 = .ok (.iload_n 2, 1) := by decide +kernel
theorem d_A_firstSlot_34 : decode b_A_firstSlot 34 = .ok (.istore_n 1, 1) := by decide +kernel
theorem d_A_firstSlot_35 : decode b_A_firstSlot 35 = .ok (.iinc 2 1, 3) := by decide +kernel
theorem d_A_firstSlot_38 : decode b_A_firstSlot 38 = .ok (.goto (-34), 3) := by decide +kernel
theorem d_A_firstSlot_41 : decode b_A_firstSlot 41 = .ok (.iload_n 1, 1) := by decide +kernel
theorem d_A_firstSlot_42 : decode b_A_firstSlot 42 = .ok (.ireturn, 1) := by decide +kernel
theorem d_A_unset_0 : decode b_A_unset 0 = .ok (.aload_n 0, 1) := by decide +kernel
theorem d_A_unset_1 : decode b_A_unset 1 = .ok (.getfield 9, 3) := by decide +kernel
theorem d_A_unset_4 : decode b_A_unset 4 = .ok (.iload_n 1, 1) := by decide +kernel
theorem d_A_unset_5 : decode b_A_unset 5 = .ok (.iconst 0, 1) := by decide +kernel
theorem d_A_unset_6 : decode b_A_unset 6 = .ok (.iastore, 1) := by decide +kernel
theorem d_A_unset_7 : decode b_A_unset 7 = .ok (.return_, 1) := by decide +kernel
theorem d_X_remember_0 : decode b_X_remember 0 = .ok (.aload_n 0, 1) := by decide +kernel
theorem d_X_remember_1 : decode b_X_remember 1 = .ok (.getfield 42, 3) := by decide +kernel
theorem d_X_remember_4 : decode b_X_remember 4 = .ok (.iconst 0, 1) := by decide +kernel
theorem d_X_remember_5 : decode b_X_remember 5 = .ok (.aload_n 0, 1) := by decide +kernel
theorem d_X_remember_6 : decode b_X_remember 6 = .ok (.getfield 42, 3) := by decide +kernel
theorem d_X_remember_9 : decode b_X_remember 9 = .ok (.iconst 1, 1) := by decide +kernel
theorem d_X_remember_10 : decode b_X_remember 10 = .ok (.bipush 15, 2) := by decide +kernel
theorem d_X_remember_12 : decode b_X_remember 12 = .ok (.invokestatic 304, 3) := by decide +kernel
theorem d_X_remember_15 : decode b_X_remember 15 = .ok (.aload_n 0, 1) := by decide +kernel
theorem d_X_remember_16 : decode b_X_remember 16 = .ok (.getfield 42, 3) := by decide +kernel
theorem d_X_remember_19 : decode b_X_remember 19 = .ok (.iconst 0, 1) := by decide +kernel
theorem d_X_remember_20 : decode b_X_remember 20 = .ok (.aload_n 0, 1) := by decide +kernel
theorem d_X_remember_21 : decode b_X_remember 21 = .ok (.getfield 101, 3) := by decide +kernel
theorem d_X_remember_24 : decode b_X_remember 24 = .ok (.i2l, 1) := by decide +kernel
theorem d_X_remember_25 : decode b_X_remember 25 = .ok (.ldc2_w 310, 3) := by decide +kernel
theorem d_X_remember_28 : decode b_X_remember 28 = .ok (.lmul, 1) := by decide +kernel
theorem d_X_remember_29 : decode b_X_remember 29 = .ok (.iload_n 1, 1) := by decide +kernel
theorem d_X_remember_30 : decode b_X_remember 30 = .ok (.ldc_w 312, 3) := by decide +kernel
theorem d_X_remember_33 : decode b_X_remember 33 = .ok (.imul, 1) := by decide +kernel
theorem d_X_remember_34 : decode b_X_remember 34 = .ok (.i2l, 1) := by decide +kernel
theorem d_X_remember_35 : decode b_X_remember 35 = .ok (.ladd, 1) := by decide +kernel
theorem d_X_remember_36 : decode b_X_remember 36 = .ok (.iload_n 2, 1) := by decide +kernel
theorem d_X_remember_37 : decode b_X_remember 37 = .ok (.sipush 256, 3) := by decide +kernel
theorem d_X_remember_40 : decode b_X_remember 40 = .ok (.imul, 1) := by decide +kernel
theorem d_X_remember_41 : decode b_X_remember 41 = .ok (.i2l, 1) := by decide +kernel
theorem d_X_remember_42 : decode b_X_remember 42 = .ok (.ladd, 1) := by decide +kernel
theorem d_X_remember_43 : decode b_X_remember 43 = .ok (.iload_n 3, 1) := by decide +kernel
theorem d_X_remember_44 : decode b_X_remember 44 = .ok (.i2l, 1) := by decide +kernel
theorem d_X_remember_45 : decode b_X_remember 45 = .ok (.ladd, 1) := by decide +kernel
theorem d_X_remember_46 : decode b_X_remember 46 = .ok (.lastore, 1) := by decide +kernel
theorem d_X_remember_47 : decode b_X_remember 47 = .ok (.return_, 1) := by decide +kernel
theorem d_M_min_0 : decode b_M_min 0 = .ok (.iload_n 0, 1) := by decide +kernel
theorem d_M_min_1 : decode b_M_min 1 = .ok (.iload_n 1, 1) := by decide +kernel
theorem d_M_min_2 : decode b_M_min 2 = .ok (.if_icmp .gt 7, 3) := by decide +kernel
theorem d_M_min_5 : decode b_M_min 5 = .ok (.iload_n 0, 1) := by decide +kernel
theorem d_M_min_6 : decode b_M_min 6 = .ok (.goto 4, 3) := by decide +kernel
theorem d_M_min_9 : decode b_M_min 9 = .ok (.iload_n 1, 1) := by decide +kernel
theorem d_M_min_10 : decode b_M_min 10 = .ok (.ireturn, 1) := by decide +kernel
theorem d_X_hasTimer_0 : decode b_X_hasTimer 0 = .ok (.aload_n 0, 1) := by decide +kernel
theorem d_X_hasTimer_1 : decode b_X_hasTimer 1 = .ok (.getfield 38, 3) := by decide +kernel
theorem d_X_hasTimer_4 : decode b_X_hasTimer 4 = .ok (.getfield 191, 3) := by decide +kernel
theorem d_X_hasTimer_7 : decode b_X_hasTimer 7 = .ok (.iload_n 1, 1) := by decide +kernel
theorem d_X_hasTimer_8 : decode b_X_hasTimer 8 = .ok (.iaload, 1) := by decide +kernel
theorem d_X_hasTimer_9 : decode b_X_hasTimer 9 = .ok (.iconst 4, 1) := by decide +kernel
theorem d_X_hasTimer_10 : decode b_X_hasTimer 10 = .ok (.if_icmp .ne 7, 3) := by decide +kernel
theorem d_X_hasTimer_13 : decode b_X_hasTimer 13 = .ok (.iconst 1, 1) := by decide +kernel
theorem d_X_hasTimer_14 : decode b_X_hasTimer 14 = .ok (.goto 4, 3) := by decide +kernel
theorem d_X_hasTimer_17 : decode b_X_hasTimer 17 = .ok (.iconst 0, 1) := by decide +kernel
theorem d_X_hasTimer_18 : decode b_X_hasTimer 18 = .ok (.ireturn, 1) := by decide +kernel
theorem d_K_enter_0 : decode b_K_enter 0 = .ok (.aload_n 0, 1) := by decide +kernel
theorem d_K_enter_1 : decode b_K_enter 1 = .ok (.iconst 1, 1) := by decide +kernel
theorem d_K_enter_2 : decode b_K_enter 2 = .ok (.putfield 9, 3) := by decide +kernel
theorem d_K_enter_5 : decode b_K_enter 5 = .ok (.aload_n 0, 1) := by decide +kernel
theorem d_K_enter_6 : decode b_K_enter 6 = .ok (.iload_n 3, 1) := by decide +kernel
theorem d_K_enter_7 : decode b_K_enter 7 = .ok (.putfield 15, 3) := by decide +kernel
theorem d_K_enter_10 : decode b_K_enter 10 = .ok (.aload_n 0, 1) := by decide +kernel
theorem d_K_enter_11 : decode b_K_enter 11 = .ok (.iload_n 1, 1) := by decide +kernel
theorem d_K_enter_12 : decode b_K_enter 12 = .ok (.putfield 18, 3) := by decide +kernel
theorem d_K_enter_15 : decode b_K_enter 15 = .ok (.aload_n 0, 1) := by decide +kernel
theorem d_K_enter_16 : decode b_K_enter 16 = .ok (.iload_n 2, 1) := by decide +kernel
theorem d_K_enter_17 : decode b_K_enter 17 = .ok (.putfield 22, 3) := by decide +kernel
theorem d_K_enter_20 : decode b_K_enter 20 = .ok (.aload_n 0, 1) := by decide +kernel
theorem d_K_enter_21 : decode b_K_enter 21 = .ok (.iload_n 3, 1) := by decide +kernel
theorem d_K_enter_22 : decode b_K_enter 22 = .ok (.ifCond .eq 7, 3) := by decide +kernel
theorem d_K_enter_25 : decode b_K_enter 25 = .ok (.iconst 1, 1) := by decide +kernel
theorem d_K_enter_26 : decode b_K_enter 26 = .ok (.goto 8, 3) := by decide +kernel
theorem d_K_enter_29 : decode b_K_enter 29 = .ok (.aload 4, 2) := by decide +kernel
theorem d_K_enter_31 : decode b_K_enter 31 = .ok (.getfield 25, 3) := by decide +kernel
theorem d_K_enter_34 : decode b_K_enter 34 = .ok (.putfield 30, 3) := by decide +kernel
theorem d_K_enter_37 : decode b_K_enter 37 = .ok (.aload_n 0, 1) := by decide +kernel
theorem d_K_enter_38 : decode b_K_enter 38 = .ok (.iload_n 3, 1) := by decide +kernel
theorem d_K_enter_39 : decode b_K_enter 39 = .ok (.ifCond .eq 11, 3) := by decide +kernel
theorem d_K_enter_42 : decode b_K_enter 42 = .ok (.aload 4, 2) := by decide +kernel
theorem d_K_enter_44 : decode b_K_enter 44 = .ok (.getfield 31, 3) := by decide +kernel
theorem d_K_enter_47 : decode b_K_enter 47 = .ok (.goto 8, 3) := by decide +kernel
theorem d_K_enter_50 : decode b_K_enter 50 = .ok (.aload 4, 2) := by decide +kernel
theorem d_K_enter_52 : decode b_K_enter 52 = .ok (.getfield 34, 3) := by decide +kernel
theorem d_K_enter_55 : decode b_K_enter 55 = .ok (.putfield 37, 3) := by decide +kernel
theorem d_K_enter_58 : decode b_K_enter 58 = .ok (.return_, 1) := by decide +kernel
theorem d_X_make_0 : decode b_X_make 0 = .ok (.aload_n 0, 1) := by decide +kernel
theorem d_X_make_1 : decode b_X_make 1 = .ok (.getfield 23, 3) := by decide +kernel
theorem d_X_make_4 : decode b_X_make 4 = .ok (.iload_n 1, 1) := by decide +kernel
theorem d_X_make_5 : decode b_X_make 5 = .ok (.aaload, 1) := by decide +kernel
theorem d_X_make_6 : decode b_X_make 6 = .ok (.dup, 1) := by decide +kernel
theorem d_X_make_7 : decode b_X_make 7 = .ok (.getfield 173, 3) := by decide +kernel
theorem d_X_make_10 : decode b_X_make 10 = .ok (.iconst 1, 1) := by decide +kernel
theorem d_X_make_11 : decode b_X_make 11 = .ok (.iadd, 1) := by decide +kernel
theorem d_X_make_12 : decode b_X_make 12 = .ok (.putfield 173, 3) := by decide +kernel
theorem d_X_make_15 : decode b_X_make 15 = .ok (.iconst 0, 1) := by decide +kernel
theorem d_X_make_16 : decode b_X_make 16 = .ok (.istore 4, 2) := by decide +kernel
theorem d_X_make_18 : decode b_X_make 18 = .ok (.iload 4, 2) := by decide +kernel
theorem d_X_make_20 : decode b_X_make 20 = .ok (.bipush 64, 2) := by decide +kernel
theorem d_X_make_22 : decode b_X_make 22 = .ok (.if_icmp .ge 44, 3) := by decide +kernel
theorem d_X_make_25 : decode b_X_make 25 = .ok (.aload_n 0, 1) := by decide +kernel
theorem d_X_make_26 : decode b_X_make 26 = .ok (.getfield 30, 3) := by decide +kernel
theorem d_X_make_29 : decode b_X_make 29 = .ok (.iload 4, 2) := by decide +kernel
theorem d_X_make_31 : decode b_X_make 31 = .ok (.aaload, 1) := by decide +kernel
theorem d_X_make_32 : decode b_X_make 32 = .ok (.getfield 110, 3) := by decide +kernel
theorem d_X_make_35 : decode b_X_make 35 = .ok (.ifCond .ne 25, 3) := by decide +kernel
theorem d_X_make_38 : decode b_X_make 38 = .ok (.aload_n 0, 1) := by decide +kernel
theorem d_X_make_39 : decode b_X_make 39 = .ok (.getfield 30, 3) := by decide +kernel
theorem d_X_make_42 : decode b_X_make 42 = .ok (.iload 4, 2) := by decide +kernel
theorem d_X_make_44 : decode b_X_make 44 = .ok (.aaload, 1) := by decide +kernel
theorem d_X_make_45 : decode b_X_make 45 = .ok (.iload_n 1, 1) := by decide +kernel
theorem d_X_make_46 : decode b_X_make 46 = .ok (.iload_n 2, 1) := by decide +kernel
theorem d_X_make_47 : decode b_X_make 47 = .ok (.iload_n 3, 1) := by decide +kernel
theorem d_X_make_48 : decode b_X_make 48 = .ok (.aload_n 0, 1) := by decide +kernel
theorem d_X_make_49 : decode b_X_make 49 = .ok (.getfield 23, 3) := by decide +kernel
theorem d_X_make_52 : decode b_X_make 52 = .ok (.iload_n 1, 1) := by decide +kernel
theorem d_X_make_53 : decode b_X_make 53 = .ok (.aaload, 1) := by decide +kernel
theorem d_X_make_54 : decode b_X_make 54 = .ok (.invokevirtual 269, 3) := by decide +kernel
theorem d_X_make_57 : decode b_X_make 57 = .ok (.iload 4, 2) := by decide +kernel
theorem d_X_make_59 : decode b_X_make 59 = .ok (.ireturn, 1) := by decide +kernel
theorem d_X_make_60 : decode b_X_make 60 = .ok (.iinc 4 1, 3) := by decide +kernel
theorem d_X_make_63 : decode b_X_make 63 = .ok (.goto (-45), 3) := by decide +kernel
theorem d_X_make_66 : decode b_X_make 66 = .ok (.aload_n 0, 1) := by decide +kernel
theorem d_X_make_67 : decode b_X_make 67 = .ok (.getfield 23, 3) := by decide +kernel
theorem d_X_make_70 : decode b_X_make 70 = .ok (.iload_n 1, 1) := by decide +kernel
theorem d_X_make_71 : decode b_X_make 71 = .ok (.aaload, 1) := by decide +kernel
theorem d_X_make_72 : decode b_X_make 72 = .ok (.dup, 1) := by decide +kernel
theorem d_X_make_73 : decode b_X_make 73 = .ok (.getfield 179, 3) := by decide +kernel
theorem d_X_make_76 : decode b_X_make 76 = .ok (.iconst 1, 1) := by decide +kernel
theorem d_X_make_77 : decode b_X_make 77 = .ok (.iadd, 1) := by decide +kernel
theorem d_X_make_78 : decode b_X_make 78 = .ok (.putfield 179, 3) := by decide +kernel
theorem d_X_make_81 : decode b_X_make 81 = .ok (.iconst (-1), 1) := by decide +kernel
theorem d_X_make_82 : decode b_X_make 82 = .ok (.ireturn, 1) := by decide +kernel
theorem d_X_way_0 : decode b_X_way 0 = .ok (.iload_n 1, 1) := by decide +kernel
theorem d_X_way_1 : decode b_X_way 1 = .ok (.invokestatic 57, 3) := by decide +kernel
theorem d_X_way_4 : decode b_X_way 4 = .ok (.ifCond .eq 27, 3) := by decide +kernel
theorem d_X_way_7 : decode b_X_way 7 = .ok (.iload_n 2, 1) := by decide +kernel
theorem d_X_way_8 : decode b_X_way 8 = .ok (.invokestatic 57, 3) := by decide +kernel
theorem d_X_way_11 : decode b_X_way 11 = .ok (.ifCond .eq 20, 3) := by decide +kernel
theorem d_X_way_14 : decode b_X_way 14 = .ok (.iload_n 1, 1) := by decide +kernel
theorem d_X_way_15 : decode b_X_way 15 = .ok (.iload_n 2, 1) := by decide +kernel
theorem d_X_way_16 : decode b_X_way 16 = .ok (.if_icmp .eq 15, 3) := by decide +kernel
theorem d_X_way_19 : decode b_X_way 19 = .ok (.aload_n 0, 1) := by decide +kernel
theorem d_X_way_20 : decode b_X_way 20 = .ok (.getfield 11, 3) := by decide +kernel
theorem d_X_way_23 : decode b_X_way 23 = .ok (.iload_n 1, 1) := by decide +kernel
theorem d_X_way_24 : decode b_X_way 24 = .ok (.aaload, 1) := by decide +kernel
theorem d_X_way_25 : decode b_X_way 25 = .ok (.iload_n 2, 1) := by decide +kernel
theorem d_X_way_26 : decode b_X_way 26 = .ok (.iaload, 1) := by decide +kernel
theorem d_X_way_27 : decode b_X_way 27 = .ok (.iconst (-1), 1) := by decide +kernel
theorem d_X_way_28 : decode b_X_way 28 = .ok (.if_icmp .ne 5, 3) := by decide +kernel
theorem d_X_way_31 : decode b_X_way 31 = .ok (.iconst (-1), 1) := by decide +kernel
theorem d_X_way_32 : decode b_X_way 32 = .ok (.ireturn, 1) := by decide +kernel
theorem d_X_way_33 : decode b_X_way 33 = .ok (.iconst 0, 1) := by decide +kernel
theorem d_X_way_34 : decode b_X_way 34 = .ok (.istore_n 3, 1) := by decide +kernel
theorem d_X_way_35 : decode b_X_way 35 = .ok (.iload_n 3, 1) := by decide +kernel
theorem d_X_way_36 : decode b_X_way 36 = .ok (.iconst 2, 1) := by decide +kernel
theorem d_X_way_37 : decode b_X_way 37 = .ok (.aload_n 0, 1) := by decide +kernel
theorem d_X_way_38 : decode b_X_way 38 = .ok (.getfield 53, 3) := by decide +kernel
theorem d_X_way_41 : decode b_X_way 41 = .ok (.imul, 1) := by decide +kernel
theorem d_X_way_42 : decode b_X_way 42 = .ok (.if_icmp .ge 57, 3) := by decide +kernel
theorem d_X_way_45 : decode b_X_way 45 = .ok (.aload_n 0, 1) := by decide +kernel
theorem d_X_way_46 : decode b_X_way 46 = .ok (.getfield 16, 3) := by decide +kernel
theorem d_X_way_49 : decode b_X_way 49 = .ok (.iload_n 3, 1) := by decide +kernel
theorem d_X_way_50 : decode b_X_way 50 = .ok (.aaload, 1) := by decide +kernel
theorem d_X_way_51 : decode b_X_way 51 = .ok (.astore 4, 2) := by decide +kernel
theorem d_X_way_53 : decode b_X_way 53 = .ok (.aload 4, 2) := by decide +kernel
theorem d_X_way_55 : decode b_X_way 55 = .ok (.getfield 128, 3) := by decide +kernel
theorem d_X_way_58 : decode b_X_way 58 = .ok (.iload_n 1, 1) := by decide +kernel
theorem d_X_way_59 : decode b_X_way 59 = .ok (.if_icmp .ne 34, 3) := by decide +kernel
theorem d_X_way_62 : decode b_X_way 62 = .ok (.aload 4, 2) := by decide +kernel
theorem d_X_way_64 : decode b_X_way 64 = .ok (.getfield 131, 3) := by decide +kernel
theorem d_X_way_67 : decode b_X_way 67 = .ok (.aload_n 0, 1) := by decide +kernel
theorem d_X_way_68 : decode b_X_way 68 = .ok (.getfield 11, 3) := by decide +kernel
theorem d_X_way_71 : decode b_X_way 71 = .ok (.aload 4, 2) := by decide +kernel
theorem d_X_way_73 : decode b_X_way 73 = .ok (.getfield 134, 3) := by decide +kernel
theorem d_X_way_76 : decode b_X_way 76 = .ok (.aaload, 1) := by decide +kernel
theorem d_X_way_77 : decode b_X_way 77 = .ok (.iload_n 2, 1) := by decide +kernel
theorem d_X_way_78 : decode b_X_way 78 = .ok (.iaload, 1) := by decide +kernel
theorem d_X_way_79 : decode b_X_way 79 = .ok (.iadd, 1) := by decide +kernel
theorem d_X_way_80 : decode b_X_way 80 = .ok (.aload_n 0, 1) := by decide +kernel
theorem d_X_way_81 : decode b_X_way 81 = .ok (.getfield 11, 3) := by decide +kernel
theorem d_X_way_84 : decode b_X_way 84 = .ok (.iload_n 1, 1) := by decide +kernel
theorem d_X_way_85 : decode b_X_way 85 = .ok (.aaload, 1) := by decide +kernel
theorem d_X_way_86 : decode b_X_way 86 = .ok (.iload_n 2, 1) := by decide +kernel
theorem d_X_way_87 : decode b_X_way 87 = .ok (.iaload, 1) := by decide +kernel
theorem d_X_way_88 : decode b_X_way 88 = .ok (.if_icmp .ne 5, 3) := by decide +kernel
theorem d_X_way_91 : decode b_X_way 91 = .ok (.iload_n 3, 1) := by decide +kernel
theorem d_X_way_92 : decode b_X_way 92 = .ok (.ireturn, 1) := by decide +kernel
theorem d_X_way_93 : decode b_X_way 93 = .ok (.iinc 3 1, 3) := by decide +kernel
theorem d_X_way_96 : decode b_X_way 96 = .ok (.goto (-61), 3) := by decide +kernel
theorem d_X_way_99 : decode b_X_way 99 = .ok (.iconst (-1), 1) := by decide +kernel
theorem d_X_way_100 : decode b_X_way 100 = .ok (.ireturn, 1) := by decide +kernel
theorem d_X_queuedOf_0 : decode b_X_queuedOf 0 = .ok (.iconst 0, 1) := by decide +kernel
theorem d_X_queuedOf_1 : decode b_X_queuedOf 1 = .ok (.istore_n 3, 1) := by decide +kernel
theorem d_X_queuedOf_2 : decode b_X_queuedOf 2 = .ok (.iconst 0, 1) := by decide +kernel
theorem d_X_queuedOf_3 : decode b_X_queuedOf 3 = .ok (.istore 4, 2) := by decide +kernel
theorem d_X_queuedOf_5 : decode b_X_queuedOf 5 = .ok (.iload 4, 2) := by decide +kernel
theorem d_X_queuedOf_7 : decode b_X_queuedOf 7 = .ok (.aload_n 1, 1) := by decide +kernel
theorem d_X_queuedOf_8 : decode b_X_queuedOf 8 = .ok (.getfield 137, 3) := by decide +kernel
theorem d_X_queuedOf_11 : decode b_X_queuedOf 11 = .ok (.if_icmp .ge 31, 3) := by decide +kernel
theorem d_X_queuedOf_14 : decode b_X_queuedOf 14 = .ok (.aload_n 0, 1) := by decide +kernel
theorem d_X_queuedOf_15 : decode b_X_queuedOf 15 = .ok (.getfield 30, 3) := by decide +kernel
theorem d_X_queuedOf_18 : decode b_X_queuedOf 18 = .ok (.aload_n 1, 1) := by decide +kernel
theorem d_X_queuedOf_19 : decode b_X_queuedOf 19 = .ok (.getfield 279, 3) := by decide +kernel
theorem d_X_queuedOf_22 : decode b_X_queuedOf 22 = .ok (.iload 4, 2) := by decide +kernel
theorem d_X_queuedOf_24 : decode b_X_queuedOf 24 = .ok (.iaload, 1) := by decide +kernel
theorem d_X_queuedOf_25 : decode b_X_queuedOf 25 = .ok (.aaload, 1) := by decide +kernel
theorem d_X_queuedOf_26 : decode b_X_queuedOf 26 = .ok (.getfield 151, 3) := by decide +kernel
theorem d_X_queuedOf_29 : decode b_X_queuedOf 29 = .ok (.iload_n 2, 1) := by decide +kernel
theorem d_X_queuedOf_30 : decode b_X_queuedOf 30 = .ok (.if_icmp .ne 6, 3) := by decide +kernel
theorem d_X_queuedOf_33 : decode b_X_queuedOf 33 = .ok (.iinc 3 1, 3) := by decide +kernel
theorem d_X_queuedOf_36 : decode b_X_queuedOf 36 = .ok (.iinc 4 1, 3) := by decide +kernel
theorem d_X_queuedOf_39 : decode b_X_queuedOf 39 = .ok (.goto (-34), 3) := by decide +kernel
theorem d_X_queuedOf_42 : decode b_X_queuedOf 42 = .ok (.iload_n 3, 1) := by decide +kernel
theorem d_X_queuedOf_43 : decode b_X_queuedOf 43 = .ok (.ireturn, 1) := by decide +kernel
theorem d_P_serveFirst_0 : decode b_P_serveFirst 0 = .ok (.aload_n 0, 1) := by decide +kernel
theorem d_P_serveFirst_1 : decode b_P_serveFirst 1 = .ok (.getfield 52, 3) := by decide +kernel
theorem d_P_serveFirst_4 : decode b_P_serveFirst 4 = .ok (.ifCond .ne 26, 3) := by decide +kernel
theorem d_P_serveFirst_7 : decode b_P_serveFirst 7 = .ok (.aload_n 0, 1) := by decide +kernel
theorem d_P_serveFirst_8 : decode b_P_serveFirst 8 = .ok (.getfield 18, 3) := by decide +kernel
theorem d_P_serveFirst_11 : decode b_P_serveFirst 11 = .ok (.aload_n 0, 1) := by decide +kernel
theorem d_P_serveFirst_12 : decode b_P_serveFirst 12 = .ok (.getfield 15, 3) := by decide +kernel
theorem d_P_serveFirst_15 : decode b_P_serveFirst 15 = .ok (.iconst 0, 1) := by decide +kernel
theorem d_P_serveFirst_16 : decode b_P_serveFirst 16 = .ok (.iaload, 1) := by decide +kernel
theorem d_P_serveFirst_17 : decode b_P_serveFirst 17 = .ok (.dup2, 1) := by decide +kernel
theorem d_P_serveFirst_18 : decode b_P_serveFirst 18 = .ok (.iaload, 1) := by decide +kernel
theorem d_P_serveFirst_19 : decode b_P_serveFirst 19 = .ok (.aload_n 0, 1) := by decide +kernel
theorem d_P_serveFirst_20 : decode b_P_serveFirst 20 = .ok (.getfield 37, 3) := by decide +kernel
theorem d_P_serveFirst_23 : decode b_P_serveFirst 23 = .ok (.iadd, 1) := by decide +kernel
theorem d_P_serveFirst_24 : decode b_P_serveFirst 24 = .ok (.iastore, 1) := by decide +kernel
theorem d_P_serveFirst_25 : decode b_P_serveFirst 25 = .ok (.aload_n 0, 1) := by decide +kernel
theorem d_P_serveFirst_26 : decode b_P_serveFirst 26 = .ok (.iconst 1, 1) := by decide +kernel
theorem d_P_serveFirst_27 : decode b_P_serveFirst 27 = .ok (.putfield 52, 3) := by decide +kernel
theorem d_P_serveFirst_30 : decode b_P_serveFirst 30 = .ok (.return_, 1) := by decide +kernel
theorem d_X_firstPlaceOf_0 : decode b_X_firstPlaceOf 0 = .ok (.iconst 0, 1) := by decide +kernel
theorem d_X_firstPlaceOf_1 : decode b_X_firstPlaceOf 1 = .ok (.istore_n 3, 1) := by decide +kernel
theorem d_X_firstPlaceOf_2 : decode b_X_firstPlaceOf 2 = .ok (.iload_n 3, 1) := by decide +kernel
theorem d_X_firstPlaceOf_3 : decode b_X_firstPlaceOf 3 = .ok (.aload_n 1, 1) := by decide +kernel
theorem d_X_firstPlaceOf_4 : decode b_X_firstPlaceOf 4 = .ok (.getfield 137, 3) := by decide +kernel
theorem d_X_firstPlaceOf_7 : decode b_X_firstPlaceOf 7 = .ok (.iconst 1, 1) := by decide +kernel
theorem d_X_firstPlaceOf_8 : decode b_X_firstPlaceOf 8 = .ok (.isub, 1) := by decide +kernel
theorem d_X_firstPlaceOf_9 : decode b_X_firstPlaceOf 9 = .ok (.if_icmp .ge 27, 3) := by decide +kernel
theorem d_X_firstPlaceOf_12 : decode b_X_firstPlaceOf 12 = .ok (.aload_n 0, 1) := by decide +kernel
theorem d_X_firstPlaceOf_13 : decode b_X_firstPlaceOf 13 = .ok (.getfield 30, 3) := by decide +kernel
theorem d_X_firstPlaceOf_16 : decode b_X_firstPlaceOf 16 = .ok (.aload_n 1, 1) := by decide +kernel
theorem d_X_firstPlaceOf_17 : decode b_X_firstPlaceOf 17 = .ok (.getfield 279, 3) := by decide +kernel
theorem d_X_firstPlaceOf_20 : decode b_X_firstPlaceOf 20 = .ok (.iload_n 3, 1) := by decide +kernel
theorem d_X_firstPlaceOf_21 : decode b_X_firstPlaceOf 21 = .ok (.iaload, 1) := by decide +kernel
theorem d_X_firstPlaceOf_22 : decode b_X_firstPlaceOf 22 = .ok (.aaload, 1) := by decide +kernel
theorem d_X_firstPlaceOf_23 : decode b_X_firstPlaceOf 23 = .ok (.getfield 151, 3) := by decide +kernel
theorem d_X_firstPlaceOf_26 : decode b_X_firstPlaceOf 26 = .ok (.iload_n 2, 1) := by decide +kernel
theorem d_X_firstPlaceOf_27 : decode b_X_firstPlaceOf 27 = .ok (.if_icmp .eq 9, 3) := by decide +kernel
theorem d_X_firstPlaceOf_30 : decode b_X_firstPlaceOf 30 = .ok (.iinc 3 1, 3) := by decide +kernel
theorem d_X_firstPlaceOf_33 : decode b_X_firstPlaceOf 33 = .ok (.goto (-31), 3) := by decide +kernel
theorem d_X_firstPlaceOf_36 : decode b_X_firstPlaceOf 36 = .ok (.iload_n 3, 1) := by decide +kernel
theorem d_X_firstPlaceOf_37 : decode b_X_firstPlaceOf 37 = .ok (.ireturn, 1) := by decide +kernel
theorem d_P_dropFirst_0 : decode b_P_dropFirst 0 = .ok (.aload_n 0, 1) := by decide +kernel
theorem d_P_dropFirst_1 : decode b_P_dropFirst 1 = .ok (.getfield 49, 3) := by decide +kernel
theorem d_P_dropFirst_4 : decode b_P_dropFirst 4 = .ok (.ifCond .le 35, 3) := by decide +kernel
theorem d_P_dropFirst_7 : decode b_P_dropFirst 7 = .ok (.aload_n 0, 1) := by decide +kernel
theorem d_P_dropFirst_8 : decode b_P_dropFirst 8 = .ok (.dup, 1) := by decide +kernel
theorem d_P_dropFirst_9 : decode b_P_dropFirst 9 = .ok (.getfield 49, 3) := by decide +kernel
theorem d_P_dropFirst_12 : decode b_P_dropFirst 12 = .ok (.iconst 1, 1) := by decide +kernel
theorem d_P_dropFirst_13 : decode b_P_dropFirst 13 = .ok (.isub, 1) := by decide +kernel
theorem d_P_dropFirst_14 : decode b_P_dropFirst 14 = .ok (.putfield 49, 3) := by decide +kernel
theorem d_P_dropFirst_17 : decode b_P_dropFirst 17 = .ok (.aload_n 0, 1) := by decide +kernel
theorem d_P_dropFirst_18 : decode b_P_dropFirst 18 = .ok (.getfield 15, 3) := by decide +kernel
theorem d_P_dropFirst_21 : decode b_P_dropFirst 21 = .ok (.iconst 1, 1) := by decide +kernel
theorem d_P_dropFirst_22 : decode b_P_dropFirst 22 = .ok (.aload_n 0, 1) := by decide +kernel
theorem d_P_dropFirst_23 : decode b_P_dropFirst 23 = .ok (.getfield 15, 3) := by decide +kernel
theorem d_P_dropFirst_26 : decode b_P_dropFirst 26 = .ok (.iconst 0, 1) := by decide +kernel
theorem d_P_dropFirst_27 : decode b_P_dropFirst 27 = .ok (.aload_n 0, 1) := by decide +kernel
theorem d_P_dropFirst_28 : decode b_P_dropFirst 28 = .ok (.getfield 49, 3) := by decide +kernel
theorem d_P_dropFirst_31 : decode b_P_dropFirst 31 = .ok (.invokestatic 62, 3) := by decide +kernel
theorem d_P_dropFirst_34 : decode b_P_dropFirst 34 = .ok (.aload_n 0, 1) := by decide +kernel
theorem d_P_dropFirst_35 : decode b_P_dropFirst 35 = .ok (.iconst 0, 1) := by decide +kernel
theorem d_P_dropFirst_36 : decode b_P_dropFirst 36 = .ok (.putfield 52, 3) := by decide +kernel
theorem d_P_dropFirst_39 : decode b_P_dropFirst 39 = .ok (.return_, 1) := by decide +kernel
theorem d_P_append_0 : decode b_P_append 0 = .ok (.aload_n 0, 1) := by decide +kernel
theorem d_P_append_1 : decode b_P_append 1 = .ok (.getfield 49, 3) := by decide +kernel
theorem d_P_append_4 : decode b_P_append 4 = .ok (.bipush 6, 2) := by decide +kernel
theorem d_P_append_6 : decode b_P_append 6 = .ok (.if_icmp .ge 23, 3) := by decide +kernel
theorem d_P_append_9 : decode b_P_append 9 = .ok (.aload_n 0, 1) := by decide +kernel
theorem d_P_append_10 : decode b_P_append 10 = .ok (.getfield 15, 3) := by decide +kernel
theorem d_P_append_13 : decode b_P_append 13 = .ok (.aload_n 0, 1) := by decide +kernel
theorem d_P_append_14 : decode b_P_append 14 = .ok (.getfield 49, 3) := by decide +kernel
theorem d_P_append_17 : decode b_P_append 17 = .ok (.iload_n 1, 1) := by decide +kernel
theorem d_P_append_18 : decode b_P_append 18 = .ok (.iastore, 1) := by decide +kernel
theorem d_P_append_19 : decode b_P_append 19 = .ok (.aload_n 0, 1) := by decide +kernel
theorem d_P_append_20 : decode b_P_append 20 = .ok (.dup, 1) := by decide +kernel
theorem d_P_append_21 : decode b_P_append 21 = .ok (.getfield 49, 3) := by decide +kernel
theorem d_P_append_24 : decode b_P_append 24 = .ok (.iconst 1, 1) := by decide +kernel
theorem d_P_append_25 : decode b_P_append 25 = .ok (.iadd, 1) := by decide +kernel
theorem d_P_append_26 : decode b_P_append 26 = .ok (.putfield 49, 3) := by decide +kernel
theorem d_P_append_29 : decode b_P_append 29 = .ok (.return_, 1) := by decide +kernel
theorem d_P_takeFrom_0 : decode b_P_takeFrom 0 = .ok (.aload_n 0, 1) := by decide +kernel
theorem d_P_takeFrom_1 : decode b_P_takeFrom 1 = .ok (.getfield 9, 3) := by decide +kernel
theorem d_P_takeFrom_4 : decode b_P_takeFrom 4 = .ok (.iload_n 1, 1) := by decide +kernel
theorem d_P_takeFrom_5 : decode b_P_takeFrom 5 = .ok (.iaload, 1) := by decide +kernel
theorem d_P_takeFrom_6 : decode b_P_takeFrom 6 = .ok (.istore_n 2, 1) := by decide +kernel
theorem d_P_takeFrom_7 : decode b_P_takeFrom 7 = .ok (.aload_n 0, 1) := by decide +kernel
theorem d_P_takeFrom_8 : decode b_P_takeFrom 8 = .ok (.dup, 1) := by decide +kernel
theorem d_P_takeFrom_9 : decode b_P_takeFrom 9 = .ok (.getfield 46, 3) := by decide +kernel
theorem d_P_takeFrom_12 : decode b_P_takeFrom 12 = .ok (.iconst 1, 1) := by decide +kernel
end
section
theorem d_P_takeFrom_13 : decode b_P_takeFrom 13 = .ok (.isub, 1) := by decide +kernel
theorem d_P_takeFrom_14 : decode b_P_takeFrom 14 = .ok (.putfield 46, 3) := by decide +kernel
theorem d_P_takeFrom_17 : decode b_P_takeFrom 17 = .ok (.aload_n 0, 1) := by decide +kernel
theorem d_P_takeFrom_18 : decode b_P_takeFrom 18 = .ok (.getfield 9, 3) := by decide +kernel
theorem d_P_takeFrom_21 : decode b_P_takeFrom 21 = .ok (.iload_n 1, 1) := by decide +kernel
theorem d_P_takeFrom_22 : decode b_P_takeFrom 22 = .ok (.iconst 1, 1) := by decide +kernel
theorem d_P_takeFrom_23 : decode b_P_takeFrom 23 = .ok (.iadd, 1) := by decide +kernel
theorem d_P_takeFrom_24 : decode b_P_takeFrom 24 = .ok (.aload_n 0, 1) := by decide +kernel
theorem d_P_takeFrom_25 : decode b_P_takeFrom 25 = .ok (.getfield 9, 3) := by decide +kernel
theorem d_P_takeFrom_28 : decode b_P_takeFrom 28 = .ok (.iload_n 1, 1) := by decide +kernel
theorem d_P_takeFrom_29 : decode b_P_takeFrom 29 = .ok (.aload_n 0, 1) := by decide +kernel
theorem d_P_takeFrom_30 : decode b_P_takeFrom 30 = .ok (.getfield 46, 3) := by decide +kernel
theorem d_P_takeFrom_33 : decode b_P_takeFrom 33 = .ok (.iload_n 1, 1) := by decide +kernel
theorem d_P_takeFrom_34 : decode b_P_takeFrom 34 = .ok (.isub, 1) := by decide +kernel
theorem d_P_takeFrom_35 : decode b_P_takeFrom 35 = .ok (.invokestatic 62, 3) := by decide +kernel
theorem d_P_takeFrom_38 : decode b_P_takeFrom 38 = .ok (.iload_n 2, 1) := by decide +kernel
theorem d_P_takeFrom_39 : decode b_P_takeFrom 39 = .ok (.ireturn, 1) := by decide +kernel
theorem d_X_choose_0 : decode b_X_choose 0 = .ok (.iconst 0, 1) := by decide +kernel
theorem d_X_choose_1 : decode b_X_choose 1 = .ok (.istore_n 2, 1) := by decide +kernel
theorem d_X_choose_2 : decode b_X_choose 2 = .ok (.iload_n 2, 1) := by decide +kernel
theorem d_X_choose_3 : decode b_X_choose 3 = .ok (.bipush 54, 2) := by decide +kernel
theorem d_X_choose_5 : decode b_X_choose 5 = .ok (.if_icmp .ge 147, 3) := by decide +kernel
theorem d_X_choose_8 : decode b_X_choose 8 = .ok (.aload_n 1, 1) := by decide +kernel
theorem d_X_choose_9 : decode b_X_choose 9 = .ok (.getfield 137, 3) := by decide +kernel
theorem d_X_choose_12 : decode b_X_choose 12 = .ok (.ifCond .le 140, 3) := by decide +kernel
theorem d_X_choose_15 : decode b_X_choose 15 = .ok (.aload_n 1, 1) := by decide +kernel
theorem d_X_choose_16 : decode b_X_choose 16 = .ok (.getfield 282, 3) := by decide +kernel
theorem d_X_choose_19 : decode b_X_choose 19 = .ok (.iconst 0, 1) := by decide +kernel
theorem d_X_choose_20 : decode b_X_choose 20 = .ok (.iaload, 1) := by decide +kernel
theorem d_X_choose_21 : decode b_X_choose 21 = .ok (.istore_n 3, 1) := by decide +kernel
theorem d_X_choose_22 : decode b_X_choose 22 = .ok (.aload_n 1, 1) := by decide +kernel
theorem d_X_choose_23 : decode b_X_choose 23 = .ok (.invokevirtual 285, 3) := by decide +kernel
theorem d_X_choose_26 : decode b_X_choose 26 = .ok (.aload_n 0, 1) := by decide +kernel
theorem d_X_choose_27 : decode b_X_choose 27 = .ok (.aload_n 1, 1) := by decide +kernel
theorem d_X_choose_28 : decode b_X_choose 28 = .ok (.iload_n 3, 1) := by decide +kernel
theorem d_X_choose_29 : decode b_X_choose 29 = .ok (.invokevirtual 288, 3) := by decide +kernel
theorem d_X_choose_32 : decode b_X_choose 32 = .ok (.istore 4, 2) := by decide +kernel
theorem d_X_choose_34 : decode b_X_choose 34 = .ok (.aload_n 0, 1) := by decide +kernel
theorem d_X_choose_35 : decode b_X_choose 35 = .ok (.getfield 30, 3) := by decide +kernel
theorem d_X_choose_38 : decode b_X_choose 38 = .ok (.aload_n 1, 1) := by decide +kernel
theorem d_X_choose_39 : decode b_X_choose 39 = .ok (.getfield 279, 3) := by decide +kernel
theorem d_X_choose_42 : decode b_X_choose 42 = .ok (.iload 4, 2) := by decide +kernel
theorem d_X_choose_44 : decode b_X_choose 44 = .ok (.iaload, 1) := by decide +kernel
theorem d_X_choose_45 : decode b_X_choose 45 = .ok (.aaload, 1) := by decide +kernel
theorem d_X_choose_46 : decode b_X_choose 46 = .ok (.astore 5, 2) := by decide +kernel
theorem d_X_choose_48 : decode b_X_choose 48 = .ok (.aload 5, 2) := by decide +kernel
theorem d_X_choose_50 : decode b_X_choose 50 = .ok (.getfield 291, 3) := by decide +kernel
theorem d_X_choose_53 : decode b_X_choose 53 = .ok (.aload_n 1, 1) := by decide +kernel
theorem d_X_choose_54 : decode b_X_choose 54 = .ok (.getfield 144, 3) := by decide +kernel
theorem d_X_choose_57 : decode b_X_choose 57 = .ok (.iload_n 3, 1) := by decide +kernel
theorem d_X_choose_58 : decode b_X_choose 58 = .ok (.iaload, 1) := by decide +kernel
theorem d_X_choose_59 : decode b_X_choose 59 = .ok (.if_icmp .gt 78, 3) := by decide +kernel
theorem d_X_choose_62 : decode b_X_choose 62 = .ok (.aload_n 1, 1) := by decide +kernel
theorem d_X_choose_63 : decode b_X_choose 63 = .ok (.getfield 144, 3) := by decide +kernel
theorem d_X_choose_66 : decode b_X_choose 66 = .ok (.iload_n 3, 1) := by decide +kernel
theorem d_X_choose_67 : decode b_X_choose 67 = .ok (.dup2, 1) := by decide +kernel
theorem d_X_choose_68 : decode b_X_choose 68 = .ok (.iaload, 1) := by decide +kernel
theorem d_X_choose_69 : decode b_X_choose 69 = .ok (.aload 5, 2) := by decide +kernel
theorem d_X_choose_71 : decode b_X_choose 71 = .ok (.getfield 291, 3) := by decide +kernel
theorem d_X_choose_74 : decode b_X_choose 74 = .ok (.isub, 1) := by decide +kernel
theorem d_X_choose_75 : decode b_X_choose 75 = .ok (.iastore, 1) := by decide +kernel
theorem d_X_choose_76 : decode b_X_choose 76 = .ok (.aload_n 1, 1) := by decide +kernel
theorem d_X_choose_77 : decode b_X_choose 77 = .ok (.aload_n 1, 1) := by decide +kernel
theorem d_X_choose_78 : decode b_X_choose 78 = .ok (.iload 4, 2) := by decide +kernel
theorem d_X_choose_80 : decode b_X_choose 80 = .ok (.invokevirtual 294, 3) := by decide +kernel
theorem d_X_choose_83 : decode b_X_choose 83 = .ok (.putfield 148, 3) := by decide +kernel
theorem d_X_choose_86 : decode b_X_choose 86 = .ok (.aload_n 0, 1) := by decide +kernel
theorem d_X_choose_87 : decode b_X_choose 87 = .ok (.getfield 38, 3) := by decide +kernel
theorem d_X_choose_90 : decode b_X_choose 90 = .ok (.bipush 6, 2) := by decide +kernel
theorem d_X_choose_92 : decode b_X_choose 92 = .ok (.aload_n 1, 1) := by decide +kernel
theorem d_X_choose_93 : decode b_X_choose 93 = .ok (.getfield 148, 3) := by decide +kernel
theorem d_X_choose_96 : decode b_X_choose 96 = .ok (.iadd, 1) := by decide +kernel
theorem d_X_choose_97 : decode b_X_choose 97 = .ok (.iconst 2, 1) := by decide +kernel
theorem d_X_choose_98 : decode b_X_choose 98 = .ok (.aload_n 0, 1) := by decide +kernel
theorem d_X_choose_99 : decode b_X_choose 99 = .ok (.getfield 101, 3) := by decide +kernel
theorem d_X_choose_102 : decode b_X_choose 102 = .ok (.aload 5, 2) := by decide +kernel
theorem d_X_choose_104 : decode b_X_choose 104 = .ok (.getfield 291, 3) := by decide +kernel
theorem d_X_choose_107 : decode b_X_choose 107 = .ok (.aload_n 1, 1) := by decide +kernel
theorem d_X_choose_108 : decode b_X_choose 108 = .ok (.getfield 298, 3) := by decide +kernel
theorem d_X_choose_111 : decode b_X_choose 111 = .ok (.imul, 1) := by decide +kernel
theorem d_X_choose_112 : decode b_X_choose 112 = .ok (.iadd, 1) := by decide +kernel
theorem d_X_choose_113 : decode b_X_choose 113 = .ok (.invokevirtual 185, 3) := by decide +kernel
theorem d_X_choose_116 : decode b_X_choose 116 = .ok (.aload_n 0, 1) := by decide +kernel
theorem d_X_choose_117 : decode b_X_choose 117 = .ok (.aload_n 1, 1) := by decide +kernel
theorem d_X_choose_118 : decode b_X_choose 118 = .ok (.iload_n 3, 1) := by decide +kernel
theorem d_X_choose_119 : decode b_X_choose 119 = .ok (.invokevirtual 140, 3) := by decide +kernel
theorem d_X_choose_122 : decode b_X_choose 122 = .ok (.ifCond .ne 14, 3) := by decide +kernel
theorem d_X_choose_125 : decode b_X_choose 125 = .ok (.aload_n 1, 1) := by decide +kernel
theorem d_X_choose_126 : decode b_X_choose 126 = .ok (.invokevirtual 301, 3) := by decide +kernel
theorem d_X_choose_129 : decode b_X_choose 129 = .ok (.aload_n 1, 1) := by decide +kernel
theorem d_X_choose_130 : decode b_X_choose 130 = .ok (.getfield 144, 3) := by decide +kernel
theorem d_X_choose_133 : decode b_X_choose 133 = .ok (.iload_n 3, 1) := by decide +kernel
theorem d_X_choose_134 : decode b_X_choose 134 = .ok (.iconst 0, 1) := by decide +kernel
theorem d_X_choose_135 : decode b_X_choose 135 = .ok (.iastore, 1) := by decide +kernel
theorem d_X_choose_136 : decode b_X_choose 136 = .ok (.return_, 1) := by decide +kernel
theorem d_X_choose_137 : decode b_X_choose 137 = .ok (.aload_n 1, 1) := by decide +kernel
theorem d_X_choose_138 : decode b_X_choose 138 = .ok (.invokevirtual 301, 3) := by decide +kernel
theorem d_X_choose_141 : decode b_X_choose 141 = .ok (.aload_n 1, 1) := by decide +kernel
theorem d_X_choose_142 : decode b_X_choose 142 = .ok (.iload_n 3, 1) := by decide +kernel
theorem d_X_choose_143 : decode b_X_choose 143 = .ok (.invokevirtual 276, 3) := by decide +kernel
theorem d_X_choose_146 : decode b_X_choose 146 = .ok (.iinc 2 1, 3) := by decide +kernel
theorem d_X_choose_149 : decode b_X_choose 149 = .ok (.goto (-147), 3) := by decide +kernel
theorem d_X_choose_152 : decode b_X_choose 152 = .ok (.return_, 1) := by decide +kernel
theorem d_X_put_0 : decode b_X_put 0 = .ok (.iload_n 1, 1) := by decide +kernel
theorem d_X_put_1 : decode b_X_put 1 = .ok (.iconst (-1), 1) := by decide +kernel
theorem d_X_put_2 : decode b_X_put 2 = .ok (.if_icmp .ne 4, 3) := by decide +kernel
theorem d_X_put_5 : decode b_X_put 5 = .ok (.return_, 1) := by decide +kernel
theorem d_X_put_6 : decode b_X_put 6 = .ok (.aload_n 0, 1) := by decide +kernel
theorem d_X_put_7 : decode b_X_put 7 = .ok (.getfield 30, 3) := by decide +kernel
theorem d_X_put_10 : decode b_X_put 10 = .ok (.iload_n 1, 1) := by decide +kernel
theorem d_X_put_11 : decode b_X_put 11 = .ok (.aaload, 1) := by decide +kernel
theorem d_X_put_12 : decode b_X_put 12 = .ok (.astore_n 3, 1) := by decide +kernel
theorem d_X_put_13 : decode b_X_put 13 = .ok (.aload_n 0, 1) := by decide +kernel
theorem d_X_put_14 : decode b_X_put 14 = .ok (.iload_n 2, 1) := by decide +kernel
theorem d_X_put_15 : decode b_X_put 15 = .ok (.aload_n 3, 1) := by decide +kernel
theorem d_X_put_16 : decode b_X_put 16 = .ok (.getfield 225, 3) := by decide +kernel
theorem d_X_put_19 : decode b_X_put 19 = .ok (.invokevirtual 273, 3) := by decide +kernel
theorem d_X_put_22 : decode b_X_put 22 = .ok (.istore 4, 2) := by decide +kernel
theorem d_X_put_24 : decode b_X_put 24 = .ok (.iload 4, 2) := by decide +kernel
theorem d_X_put_26 : decode b_X_put 26 = .ok (.iconst (-1), 1) := by decide +kernel
theorem d_X_put_27 : decode b_X_put 27 = .ok (.if_icmp .eq 26, 3) := by decide +kernel
theorem d_X_put_30 : decode b_X_put 30 = .ok (.aload_n 0, 1) := by decide +kernel
theorem d_X_put_31 : decode b_X_put 31 = .ok (.getfield 16, 3) := by decide +kernel
theorem d_X_put_34 : decode b_X_put 34 = .ok (.iload 4, 2) := by decide +kernel
theorem d_X_put_36 : decode b_X_put 36 = .ok (.aaload, 1) := by decide +kernel
theorem d_X_put_37 : decode b_X_put 37 = .ok (.getfield 137, 3) := by decide +kernel
theorem d_X_put_40 : decode b_X_put 40 = .ok (.aload_n 0, 1) := by decide +kernel
theorem d_X_put_41 : decode b_X_put 41 = .ok (.getfield 16, 3) := by decide +kernel
theorem d_X_put_44 : decode b_X_put 44 = .ok (.iload 4, 2) := by decide +kernel
theorem d_X_put_46 : decode b_X_put 46 = .ok (.aaload, 1) := by decide +kernel
theorem d_X_put_47 : decode b_X_put 47 = .ok (.getfield 79, 3) := by decide +kernel
theorem d_X_put_50 : decode b_X_put 50 = .ok (.if_icmp .lt 27, 3) := by decide +kernel
theorem d_X_put_53 : decode b_X_put 53 = .ok (.aload_n 3, 1) := by decide +kernel
theorem d_X_put_54 : decode b_X_put 54 = .ok (.iconst 0, 1) := by decide +kernel
theorem d_X_put_55 : decode b_X_put 55 = .ok (.putfield 110, 3) := by decide +kernel
theorem d_X_put_58 : decode b_X_put 58 = .ok (.aload_n 0, 1) := by decide +kernel
theorem d_X_put_59 : decode b_X_put 59 = .ok (.getfield 23, 3) := by decide +kernel
theorem d_X_put_62 : decode b_X_put 62 = .ok (.aload_n 3, 1) := by decide +kernel
theorem d_X_put_63 : decode b_X_put 63 = .ok (.getfield 151, 3) := by decide +kernel
theorem d_X_put_66 : decode b_X_put 66 = .ok (.aaload, 1) := by decide +kernel
theorem d_X_put_67 : decode b_X_put 67 = .ok (.dup, 1) := by decide +kernel
theorem d_X_put_68 : decode b_X_put 68 = .ok (.getfield 179, 3) := by decide +kernel
theorem d_X_put_71 : decode b_X_put 71 = .ok (.iconst 1, 1) := by decide +kernel
theorem d_X_put_72 : decode b_X_put 72 = .ok (.iadd, 1) := by decide +kernel
theorem d_X_put_73 : decode b_X_put 73 = .ok (.putfield 179, 3) := by decide +kernel
theorem d_X_put_76 : decode b_X_put 76 = .ok (.return_, 1) := by decide +kernel
theorem d_X_put_77 : decode b_X_put 77 = .ok (.aload_n 0, 1) := by decide +kernel
theorem d_X_put_78 : decode b_X_put 78 = .ok (.getfield 16, 3) := by decide +kernel
theorem d_X_put_81 : decode b_X_put 81 = .ok (.iload 4, 2) := by decide +kernel
theorem d_X_put_83 : decode b_X_put 83 = .ok (.aaload, 1) := by decide +kernel
theorem d_X_put_84 : decode b_X_put 84 = .ok (.astore 5, 2) := by decide +kernel
theorem d_X_put_86 : decode b_X_put 86 = .ok (.aload_n 3, 1) := by decide +kernel
theorem d_X_put_87 : decode b_X_put 87 = .ok (.iload 4, 2) := by decide +kernel
theorem d_X_put_89 : decode b_X_put 89 = .ok (.putfield 215, 3) := by decide +kernel
theorem d_X_put_92 : decode b_X_put 92 = .ok (.aload_n 0, 1) := by decide +kernel
theorem d_X_put_93 : decode b_X_put 93 = .ok (.aload 5, 2) := by decide +kernel
theorem d_X_put_95 : decode b_X_put 95 = .ok (.aload_n 3, 1) := by decide +kernel
theorem d_X_put_96 : decode b_X_put 96 = .ok (.getfield 151, 3) := by decide +kernel
theorem d_X_put_99 : decode b_X_put 99 = .ok (.invokevirtual 140, 3) := by decide +kernel
theorem d_X_put_102 : decode b_X_put 102 = .ok (.ifCond .ne 12, 3) := by decide +kernel
theorem d_X_put_105 : decode b_X_put 105 = .ok (.aload 5, 2) := by decide +kernel
theorem d_X_put_107 : decode b_X_put 107 = .ok (.aload_n 3, 1) := by decide +kernel
theorem d_X_put_108 : decode b_X_put 108 = .ok (.getfield 151, 3) := by decide +kernel
theorem d_X_put_111 : decode b_X_put 111 = .ok (.invokevirtual 276, 3) := by decide +kernel
theorem d_X_put_114 : decode b_X_put 114 = .ok (.aload 5, 2) := by decide +kernel
theorem d_X_put_116 : decode b_X_put 116 = .ok (.getfield 279, 3) := by decide +kernel
theorem d_X_put_119 : decode b_X_put 119 = .ok (.aload 5, 2) := by decide +kernel
theorem d_X_put_121 : decode b_X_put 121 = .ok (.getfield 137, 3) := by decide +kernel
theorem d_X_put_124 : decode b_X_put 124 = .ok (.iload_n 1, 1) := by decide +kernel
theorem d_X_put_125 : decode b_X_put 125 = .ok (.iastore, 1) := by decide +kernel
theorem d_X_put_126 : decode b_X_put 126 = .ok (.aload 5, 2) := by decide +kernel
theorem d_X_put_128 : decode b_X_put 128 = .ok (.dup, 1) := by decide +kernel
theorem d_X_put_129 : decode b_X_put 129 = .ok (.getfield 137, 3) := by decide +kernel
theorem d_X_put_132 : decode b_X_put 132 = .ok (.iconst 1, 1) := by decide +kernel
theorem d_X_put_133 : decode b_X_put 133 = .ok (.iadd, 1) := by decide +kernel
theorem d_X_put_134 : decode b_X_put 134 = .ok (.putfield 137, 3) := by decide +kernel
theorem d_X_put_137 : decode b_X_put 137 = .ok (.aload 5, 2) := by decide +kernel
theorem d_X_put_139 : decode b_X_put 139 = .ok (.getfield 148, 3) := by decide +kernel
theorem d_X_put_142 : decode b_X_put 142 = .ok (.iconst (-1), 1) := by decide +kernel
theorem d_X_put_143 : decode b_X_put 143 = .ok (.if_icmp .ne 9, 3) := by decide +kernel
theorem d_X_put_146 : decode b_X_put 146 = .ok (.aload_n 0, 1) := by decide +kernel
theorem d_X_put_147 : decode b_X_put 147 = .ok (.aload 5, 2) := by decide +kernel
theorem d_X_put_149 : decode b_X_put 149 = .ok (.invokevirtual 221, 3) := by decide +kernel
theorem d_X_put_152 : decode b_X_put 152 = .ok (.return_, 1) := by decide +kernel
theorem d_X_setTimer_0 : decode b_X_setTimer 0 = .ok (.aload_n 0, 1) := by decide +kernel
theorem d_X_setTimer_1 : decode b_X_setTimer 1 = .ok (.getfield 38, 3) := by decide +kernel
theorem d_X_setTimer_4 : decode b_X_setTimer 4 = .ok (.iload_n 1, 1) := by decide +kernel
theorem d_X_setTimer_5 : decode b_X_setTimer 5 = .ok (.iconst 4, 1) := by decide +kernel
theorem d_X_setTimer_6 : decode b_X_setTimer 6 = .ok (.aload_n 0, 1) := by decide +kernel
theorem d_X_setTimer_7 : decode b_X_setTimer 7 = .ok (.getfield 101, 3) := by decide +kernel
theorem d_X_setTimer_10 : decode b_X_setTimer 10 = .ok (.aload_n 0, 1) := by decide +kernel
theorem d_X_setTimer_11 : decode b_X_setTimer 11 = .ok (.getfield 23, 3) := by decide +kernel
theorem d_X_setTimer_14 : decode b_X_setTimer 14 = .ok (.iload_n 1, 1) := by decide +kernel
theorem d_X_setTimer_15 : decode b_X_setTimer 15 = .ok (.aaload, 1) := by decide +kernel
theorem d_X_setTimer_16 : decode b_X_setTimer 16 = .ok (.getfield 95, 3) := by decide +kernel
theorem d_X_setTimer_19 : decode b_X_setTimer 19 = .ok (.iadd, 1) := by decide +kernel
theorem d_X_setTimer_20 : decode b_X_setTimer 20 = .ok (.invokevirtual 185, 3) := by decide +kernel
theorem d_X_setTimer_23 : decode b_X_setTimer 23 = .ok (.return_, 1) := by decide +kernel
theorem d_X_fill_0 : decode b_X_fill 0 = .ok (.aload_n 0, 1) := by decide +kernel
theorem d_X_fill_1 : decode b_X_fill 1 = .ok (.getfield 23, 3) := by decide +kernel
theorem d_X_fill_4 : decode b_X_fill 4 = .ok (.iload_n 1, 1) := by decide +kernel
theorem d_X_fill_5 : decode b_X_fill 5 = .ok (.aaload, 1) := by decide +kernel
theorem d_X_fill_6 : decode b_X_fill 6 = .ok (.astore_n 2, 1) := by decide +kernel
theorem d_X_fill_7 : decode b_X_fill 7 = .ok (.aload_n 2, 1) := by decide +kernel
theorem d_X_fill_8 : decode b_X_fill 8 = .ok (.getfield 164, 3) := by decide +kernel
theorem d_X_fill_11 : decode b_X_fill 11 = .ok (.aload_n 2, 1) := by decide +kernel
theorem d_X_fill_12 : decode b_X_fill 12 = .ok (.getfield 92, 3) := by decide +kernel
theorem d_X_fill_15 : decode b_X_fill 15 = .ok (.iadd, 1) := by decide +kernel
theorem d_X_fill_16 : decode b_X_fill 16 = .ok (.aload_n 2, 1) := by decide +kernel
theorem d_X_fill_17 : decode b_X_fill 17 = .ok (.getfield 260, 3) := by decide +kernel
theorem d_X_fill_20 : decode b_X_fill 20 = .ok (.invokestatic 263, 3) := by decide +kernel
theorem d_X_fill_23 : decode b_X_fill 23 = .ok (.istore_n 3, 1) := by decide +kernel
theorem d_X_fill_24 : decode b_X_fill 24 = .ok (.aload_n 2, 1) := by decide +kernel
theorem d_X_fill_25 : decode b_X_fill 25 = .ok (.getfield 167, 3) := by decide +kernel
theorem d_X_fill_28 : decode b_X_fill 28 = .ok (.istore 4, 2) := by decide +kernel
theorem d_X_fill_30 : decode b_X_fill 30 = .ok (.iload 4, 2) := by decide +kernel
theorem d_X_fill_32 : decode b_X_fill 32 = .ok (.iload_n 3, 1) := by decide +kernel
theorem d_X_fill_33 : decode b_X_fill 33 = .ok (.if_icmp .ge 46, 3) := by decide +kernel
theorem d_X_fill_36 : decode b_X_fill 36 = .ok (.aload_n 0, 1) := by decide +kernel
theorem d_X_fill_37 : decode b_X_fill 37 = .ok (.iload_n 1, 1) := by decide +kernel
theorem d_X_fill_38 : decode b_X_fill 38 = .ok (.invokevirtual 158, 3) := by decide +kernel
theorem d_X_fill_41 : decode b_X_fill 41 = .ok (.ifCond .ne 8, 3) := by decide +kernel
theorem d_X_fill_44 : decode b_X_fill 44 = .ok (.aload_n 0, 1) := by decide +kernel
theorem d_X_fill_45 : decode b_X_fill 45 = .ok (.iload_n 1, 1) := by decide +kernel
theorem d_X_fill_46 : decode b_X_fill 46 = .ok (.invokevirtual 257, 3) := by decide +kernel
theorem d_X_fill_49 : decode b_X_fill 49 = .ok (.aload_n 0, 1) := by decide +kernel
theorem d_X_fill_50 : decode b_X_fill 50 = .ok (.aload_n 0, 1) := by decide +kernel
theorem d_X_fill_51 : decode b_X_fill 51 = .ok (.iload_n 1, 1) := by decide +kernel
theorem d_X_fill_52 : decode b_X_fill 52 = .ok (.iload 4, 2) := by decide +kernel
theorem d_X_fill_54 : decode b_X_fill 54 = .ok (.iconst 0, 1) := by decide +kernel
theorem d_X_fill_55 : decode b_X_fill 55 = .ok (.invokevirtual 244, 3) := by decide +kernel
theorem d_X_fill_58 : decode b_X_fill 58 = .ok (.aload_n 2, 1) := by decide +kernel
theorem d_X_fill_59 : decode b_X_fill 59 = .ok (.getfield 266, 3) := by decide +kernel
theorem d_X_fill_62 : decode b_X_fill 62 = .ok (.invokevirtual 228, 3) := by decide +kernel
theorem d_X_fill_65 : decode b_X_fill 65 = .ok (.aload_n 2, 1) := by decide +kernel
theorem d_X_fill_66 : decode b_X_fill 66 = .ok (.iload 4, 2) := by decide +kernel
theorem d_X_fill_68 : decode b_X_fill 68 = .ok (.iconst 1, 1) := by decide +kernel
theorem d_X_fill_69 : decode b_X_fill 69 = .ok (.iadd, 1) := by decide +kernel
theorem d_X_fill_70 : decode b_X_fill 70 = .ok (.putfield 167, 3) := by decide +kernel
theorem d_X_fill_73 : decode b_X_fill 73 = .ok (.iinc 4 1, 3) := by decide +kernel
theorem d_X_fill_76 : decode b_X_fill 76 = .ok (.goto (-46), 3) := by decide +kernel
theorem d_X_fill_79 : decode b_X_fill 79 = .ok (.return_, 1) := by decide +kernel
theorem d_X_start_0 : decode b_X_start 0 = .ok (.aload_n 0, 1) := by decide +kernel
theorem d_X_start_1 : decode b_X_start 1 = .ok (.iconst 1, 1) := by decide +kernel
theorem d_X_start_2 : decode b_X_start 2 = .ok (.iload_n 1, 1) := by decide +kernel
theorem d_X_start_3 : decode b_X_start 3 = .ok (.aload_n 0, 1) := by decide +kernel
theorem d_X_start_4 : decode b_X_start 4 = .ok (.getfield 23, 3) := by decide +kernel
theorem d_X_start_7 : decode b_X_start 7 = .ok (.iload_n 1, 1) := by decide +kernel
theorem d_X_start_8 : decode b_X_start 8 = .ok (.aaload, 1) := by decide +kernel
theorem d_X_start_9 : decode b_X_start 9 = .ok (.getfield 167, 3) := by decide +kernel
theorem d_X_start_12 : decode b_X_start 12 = .ok (.invokevirtual 210, 3) := by decide +kernel
theorem d_X_start_15 : decode b_X_start 15 = .ok (.aload_n 0, 1) := by decide +kernel
theorem d_X_start_16 : decode b_X_start 16 = .ok (.iload_n 1, 1) := by decide +kernel
theorem d_X_start_17 : decode b_X_start 17 = .ok (.invokevirtual 213, 3) := by decide +kernel
theorem d_X_start_20 : decode b_X_start 20 = .ok (.return_, 1) := by decide +kernel
theorem d_K_label_0 : decode b_K_label 0 = .ok (.aload_n 0, 1) := by decide +kernel
theorem d_K_label_1 : decode b_K_label 1 = .ok (.getfield 15, 3) := by decide +kernel
theorem d_K_label_4 : decode b_K_label 4 = .ok (.ifCond .eq 14, 3) := by decide +kernel
theorem d_K_label_7 : decode b_K_label 7 = .ok (.aload_n 0, 1) := by decide +kernel
theorem d_K_label_8 : decode b_K_label 8 = .ok (.getfield 22, 3) := by decide +kernel
theorem d_K_label_11 : decode b_K_label 11 = .ok (.sipush 128, 3) := by decide +kernel
theorem d_K_label_14 : decode b_K_label 14 = .ok (.iadd, 1) := by decide +kernel
theorem d_K_label_15 : decode b_K_label 15 = .ok (.goto 7, 3) := by decide +kernel
theorem d_K_label_18 : decode b_K_label 18 = .ok (.aload_n 0, 1) := by decide +kernel
theorem d_K_label_19 : decode b_K_label 19 = .ok (.getfield 22, 3) := by decide +kernel
theorem d_K_label_22 : decode b_K_label 22 = .ok (.ireturn, 1) := by decide +kernel
theorem d_X_leave_0 : decode b_X_leave 0 = .ok (.aload_n 0, 1) := by decide +kernel
theorem d_X_leave_1 : decode b_X_leave 1 = .ok (.getfield 30, 3) := by decide +kernel
theorem d_X_leave_4 : decode b_X_leave 4 = .ok (.iload_n 1, 1) := by decide +kernel
theorem d_X_leave_5 : decode b_X_leave 5 = .ok (.aaload, 1) := by decide +kernel
theorem d_X_leave_6 : decode b_X_leave 6 = .ok (.astore_n 2, 1) := by decide +kernel
theorem d_X_leave_7 : decode b_X_leave 7 = .ok (.aload_n 0, 1) := by decide +kernel
theorem d_X_leave_8 : decode b_X_leave 8 = .ok (.getfield 16, 3) := by decide +kernel
theorem d_X_leave_11 : decode b_X_leave 11 = .ok (.aload_n 2, 1) := by decide +kernel
theorem d_X_leave_12 : decode b_X_leave 12 = .ok (.getfield 215, 3) := by decide +kernel
theorem d_X_leave_15 : decode b_X_leave 15 = .ok (.aaload, 1) := by decide +kernel
theorem d_X_leave_16 : decode b_X_leave 16 = .ok (.astore_n 3, 1) := by decide +kernel
theorem d_X_leave_17 : decode b_X_leave 17 = .ok (.aload_n 0, 1) := by decide +kernel
theorem d_X_leave_18 : decode b_X_leave 18 = .ok (.iconst 2, 1) := by decide +kernel
theorem d_X_leave_19 : decode b_X_leave 19 = .ok (.aload_n 2, 1) := by decide +kernel
theorem d_X_leave_20 : decode b_X_leave 20 = .ok (.getfield 215, 3) := by decide +kernel
theorem d_X_leave_23 : decode b_X_leave 23 = .ok (.aload_n 2, 1) := by decide +kernel
theorem d_X_leave_24 : decode b_X_leave 24 = .ok (.invokevirtual 154, 3) := by decide +kernel
theorem d_X_leave_27 : decode b_X_leave 27 = .ok (.invokevirtual 210, 3) := by decide +kernel
theorem d_X_leave_30 : decode b_X_leave 30 = .ok (.aload_n 3, 1) := by decide +kernel
theorem d_X_leave_31 : decode b_X_leave 31 = .ok (.iconst (-1), 1) := by decide +kernel
theorem d_X_leave_32 : decode b_X_leave 32 = .ok (.putfield 148, 3) := by decide +kernel
theorem d_X_leave_35 : decode b_X_leave 35 = .ok (.aload_n 0, 1) := by decide +kernel
theorem d_X_leave_36 : decode b_X_leave 36 = .ok (.getfield 38, 3) := by decide +kernel
theorem d_X_leave_39 : decode b_X_leave 39 = .ok (.bipush 6, 2) := by decide +kernel
theorem d_X_leave_41 : decode b_X_leave 41 = .ok (.iload_n 1, 1) := by decide +kernel
theorem d_X_leave_42 : decode b_X_leave 42 = .ok (.iadd, 1) := by decide +kernel
theorem d_X_leave_43 : decode b_X_leave 43 = .ok (.iconst 3, 1) := by decide +kernel
theorem d_X_leave_44 : decode b_X_leave 44 = .ok (.aload_n 0, 1) := by decide +kernel
theorem d_X_leave_45 : decode b_X_leave 45 = .ok (.getfield 101, 3) := by decide +kernel
theorem d_X_leave_48 : decode b_X_leave 48 = .ok (.aload_n 3, 1) := by decide +kernel
theorem d_X_leave_49 : decode b_X_leave 49 = .ok (.getfield 218, 3) := by decide +kernel
theorem d_X_leave_52 : decode b_X_leave 52 = .ok (.iadd, 1) := by decide +kernel
theorem d_X_leave_53 : decode b_X_leave 53 = .ok (.invokevirtual 185, 3) := by decide +kernel
theorem d_X_leave_56 : decode b_X_leave 56 = .ok (.aload_n 3, 1) := by decide +kernel
theorem d_X_leave_57 : decode b_X_leave 57 = .ok (.getfield 137, 3) := by decide +kernel
theorem d_X_leave_60 : decode b_X_leave 60 = .ok (.ifCond .le 8, 3) := by decide +kernel
theorem d_X_leave_63 : decode b_X_leave 63 = .ok (.aload_n 0, 1) := by decide +kernel
theorem d_X_leave_64 : decode b_X_leave 64 = .ok (.aload_n 3, 1) := by decide +kernel
theorem d_X_leave_65 : decode b_X_leave 65 = .ok (.invokevirtual 221, 3) := by decide +kernel
theorem d_X_leave_68 : decode b_X_leave 68 = .ok (.return_, 1) := by decide +kernel
theorem d_M_max_0 : decode b_M_max 0 = .ok (.iload_n 0, 1) := by decide +kernel
theorem d_M_max_1 : decode b_M_max 1 = .ok (.iload_n 1, 1) := by decide +kernel
theorem d_M_max_2 : decode b_M_max 2 = .ok (.if_icmp .lt 7, 3) := by decide +kernel
theorem d_M_max_5 : decode b_M_max 5 = .ok (.iload_n 0, 1) := by decide +kernel
theorem d_M_max_6 : decode b_M_max 6 = .ok (.goto 4, 3) := by decide +kernel
theorem d_M_max_9 : decode b_M_max 9 = .ok (.iload_n 1, 1) := by decide +kernel
theorem d_M_max_10 : decode b_M_max 10 = .ok (.ireturn, 1) := by decide +kernel
theorem d_X_moveBase_0 : decode b_X_moveBase 0 = .ok (.aload_n 0, 1) := by decide +kernel
theorem d_X_moveBase_1 : decode b_X_moveBase 1 = .ok (.getfield 23, 3) := by decide +kernel
theorem d_X_moveBase_4 : decode b_X_moveBase 4 = .ok (.iload_n 1, 1) := by decide +kernel
theorem d_X_moveBase_5 : decode b_X_moveBase 5 = .ok (.aaload, 1) := by decide +kernel
theorem d_X_moveBase_6 : decode b_X_moveBase 6 = .ok (.astore_n 3, 1) := by decide +kernel
theorem d_X_moveBase_7 : decode b_X_moveBase 7 = .ok (.aload_n 3, 1) := by decide +kernel
theorem d_X_moveBase_8 : decode b_X_moveBase 8 = .ok (.iload_n 2, 1) := by decide +kernel
theorem d_X_moveBase_9 : decode b_X_moveBase 9 = .ok (.putfield 164, 3) := by decide +kernel
theorem d_X_moveBase_12 : decode b_X_moveBase 12 = .ok (.aload_n 3, 1) := by decide +kernel
theorem d_X_moveBase_13 : decode b_X_moveBase 13 = .ok (.aload_n 3, 1) := by decide +kernel
theorem d_X_moveBase_14 : decode b_X_moveBase 14 = .ok (.getfield 167, 3) := by decide +kernel
theorem d_X_moveBase_17 : decode b_X_moveBase 17 = .ok (.iload_n 2, 1) := by decide +kernel
theorem d_X_moveBase_18 : decode b_X_moveBase 18 = .ok (.invokestatic 251, 3) := by decide +kernel
theorem d_X_moveBase_21 : decode b_X_moveBase 21 = .ok (.putfield 167, 3) := by decide +kernel
theorem d_X_moveBase_24 : decode b_X_moveBase 24 = .ok (.aload_n 0, 1) := by decide +kernel
theorem d_X_moveBase_25 : decode b_X_moveBase 25 = .ok (.getfield 38, 3) := by decide +kernel
theorem d_X_moveBase_28 : decode b_X_moveBase 28 = .ok (.iload_n 1, 1) := by decide +kernel
theorem d_X_moveBase_29 : decode b_X_moveBase 29 = .ok (.invokevirtual 194, 3) := by decide +kernel
theorem d_X_moveBase_32 : decode b_X_moveBase 32 = .ok (.aload_n 3, 1) := by decide +kernel
theorem d_X_moveBase_33 : decode b_X_moveBase 33 = .ok (.getfield 164, 3) := by decide +kernel
theorem d_X_moveBase_36 : decode b_X_moveBase 36 = .ok (.aload_n 3, 1) := by decide +kernel
theorem d_X_moveBase_37 : decode b_X_moveBase 37 = .ok (.getfield 167, 3) := by decide +kernel
theorem d_X_moveBase_40 : decode b_X_moveBase 40 = .ok (.if_icmp .ge 8, 3) := by decide +kernel
theorem d_X_moveBase_43 : decode b_X_moveBase 43 = .ok (.aload_n 0, 1) := by decide +kernel
theorem d_X_moveBase_44 : decode b_X_moveBase 44 = .ok (.iload_n 1, 1) := by decide +kernel
theorem d_X_moveBase_45 : decode b_X_moveBase 45 = .ok (.invokevirtual 257, 3) := by decide +kernel
theorem d_X_moveBase_48 : decode b_X_moveBase 48 = .ok (.return_, 1) := by decide +kernel
theorem d_X_takeData_0 : decode b_X_takeData 0 = .ok (.aload_n 0, 1) := by decide +kernel
theorem d_X_takeData_1 : decode b_X_takeData 1 = .ok (.getfield 23, 3) := by decide +kernel
theorem d_X_takeData_4 : decode b_X_takeData 4 = .ok (.iload_n 1, 1) := by decide +kernel
theorem d_X_takeData_5 : decode b_X_takeData 5 = .ok (.aaload, 1) := by decide +kernel
theorem d_X_takeData_6 : decode b_X_takeData 6 = .ok (.astore_n 3, 1) := by decide +kernel
theorem d_X_takeData_7 : decode b_X_takeData 7 = .ok (.iload_n 2, 1) := by decide +kernel
theorem d_X_takeData_8 : decode b_X_takeData 8 = .ok (.aload_n 3, 1) := by decide +kernel
theorem d_X_takeData_9 : decode b_X_takeData 9 = .ok (.getfield 170, 3) := by decide +kernel
theorem d_X_takeData_12 : decode b_X_takeData 12 = .ok (.if_icmp .ne 13, 3) := by decide +kernel
theorem d_X_takeData_15 : decode b_X_takeData 15 = .ok (.aload_n 3, 1) := by decide +kernel
theorem d_X_takeData_16 : decode b_X_takeData 16 = .ok (.dup, 1) := by decide +kernel
theorem d_X_takeData_17 : decode b_X_takeData 17 = .ok (.getfield 170, 3) := by decide +kernel
theorem d_X_takeData_20 : decode b_X_takeData 20 = .ok (.iconst 1, 1) := by decide +kernel
theorem d_X_takeData_21 : decode b_X_takeData 21 = .ok (.iadd, 1) := by decide +kernel
theorem d_X_takeData_22 : decode b_X_takeData 22 = .ok (.putfield 170, 3) := by decide +kernel
theorem d_X_takeData_25 : decode b_X_takeData 25 = .ok (.aload_n 0, 1) := by decide +kernel
theorem d_X_takeData_26 : decode b_X_takeData 26 = .ok (.aload_n 0, 1) := by decide +kernel
theorem d_X_takeData_27 : decode b_X_takeData 27 = .ok (.iload_n 1, 1) := by decide +kernel
theorem d_X_takeData_28 : decode b_X_takeData 28 = .ok (.aload_n 3, 1) := by decide +kernel
theorem d_X_takeData_29 : decode b_X_takeData 29 = .ok (.getfield 170, 3) := by decide +kernel
theorem d_X_takeData_32 : decode b_X_takeData 32 = .ok (.iconst 1, 1) := by decide +kernel
theorem d_X_takeData_33 : decode b_X_takeData 33 = .ok (.invokevirtual 244, 3) := by decide +kernel
theorem d_X_takeData_36 : decode b_X_takeData 36 = .ok (.aload_n 3, 1) := by decide +kernel
theorem d_X_takeData_37 : decode b_X_takeData 37 = .ok (.getfield 248, 3) := by decide +kernel
theorem d_X_takeData_40 : decode b_X_takeData 40 = .ok (.invokevirtual 228, 3) := by decide +kernel
theorem d_X_takeData_43 : decode b_X_takeData 43 = .ok (.return_, 1) := by decide +kernel
theorem d_X_arrive_0 : decode b_X_arrive 0 = .ok (.aload_n 0, 1) := by decide +kernel
theorem d_X_arrive_1 : decode b_X_arrive 1 = .ok (.getfield 30, 3) := by decide +kernel
theorem d_X_arrive_4 : decode b_X_arrive 4 = .ok (.iload_n 1, 1) := by decide +kernel
theorem d_X_arrive_5 : decode b_X_arrive 5 = .ok (.aaload, 1) := by decide +kernel
theorem d_X_arrive_6 : decode b_X_arrive 6 = .ok (.astore_n 2, 1) := by decide +kernel
theorem d_X_arrive_7 : decode b_X_arrive 7 = .ok (.aload_n 0, 1) := by decide +kernel
theorem d_X_arrive_8 : decode b_X_arrive 8 = .ok (.getfield 16, 3) := by decide +kernel
theorem d_X_arrive_11 : decode b_X_arrive 11 = .ok (.aload_n 2, 1) := by decide +kernel
theorem d_X_arrive_12 : decode b_X_arrive 12 = .ok (.getfield 215, 3) := by decide +kernel
theorem d_X_arrive_15 : decode b_X_arrive 15 = .ok (.aaload, 1) := by decide +kernel
theorem d_X_arrive_16 : decode b_X_arrive 16 = .ok (.getfield 134, 3) := by decide +kernel
theorem d_X_arrive_19 : decode b_X_arrive 19 = .ok (.istore_n 3, 1) := by decide +kernel
theorem d_X_arrive_20 : decode b_X_arrive 20 = .ok (.aload_n 0, 1) := by decide +kernel
theorem d_X_arrive_21 : decode b_X_arrive 21 = .ok (.iconst 3, 1) := by decide +kernel
theorem d_X_arrive_22 : decode b_X_arrive 22 = .ok (.iload_n 3, 1) := by decide +kernel
theorem d_X_arrive_23 : decode b_X_arrive 23 = .ok (.aload_n 2, 1) := by decide +kernel
theorem d_X_arrive_24 : decode b_X_arrive 24 = .ok (.invokevirtual 154, 3) := by decide +kernel
theorem d_X_arrive_27 : decode b_X_arrive 27 = .ok (.invokevirtual 210, 3) := by decide +kernel
theorem d_X_arrive_30 : decode b_X_arrive 30 = .ok (.iload_n 3, 1) := by decide +kernel
theorem d_X_arrive_31 : decode b_X_arrive 31 = .ok (.aload_n 2, 1) := by decide +kernel
theorem d_X_arrive_32 : decode b_X_arrive 32 = .ok (.getfield 225, 3) := by decide +kernel
theorem d_X_arrive_35 : decode b_X_arrive 35 = .ok (.if_icmp .eq 10, 3) := by decide +kernel
theorem d_X_arrive_38 : decode b_X_arrive 38 = .ok (.aload_n 0, 1) := by decide +kernel
theorem d_X_arrive_39 : decode b_X_arrive 39 = .ok (.iload_n 1, 1) := by decide +kernel
theorem d_X_arrive_40 : decode b_X_arrive 40 = .ok (.iload_n 3, 1) := by decide +kernel
theorem d_X_arrive_41 : decode b_X_arrive 41 = .ok (.invokevirtual 228, 3) := by decide +kernel
theorem d_X_arrive_44 : decode b_X_arrive 44 = .ok (.return_, 1) := by decide +kernel
theorem d_X_arrive_45 : decode b_X_arrive 45 = .ok (.aload_n 2, 1) := by decide +kernel
theorem d_X_arrive_46 : decode b_X_arrive 46 = .ok (.iconst 0, 1) := by decide +kernel
theorem d_X_arrive_47 : decode b_X_arrive 47 = .ok (.putfield 110, 3) := by decide +kernel
theorem d_X_arrive_50 : decode b_X_arrive 50 = .ok (.aload_n 0, 1) := by decide +kernel
theorem d_X_arrive_51 : decode b_X_arrive 51 = .ok (.getfield 23, 3) := by decide +kernel
theorem d_X_arrive_54 : decode b_X_arrive 54 = .ok (.aload_n 2, 1) := by decide +kernel
theorem d_X_arrive_55 : decode b_X_arrive 55 = .ok (.getfield 151, 3) := by decide +kernel
theorem d_X_arrive_58 : decode b_X_arrive 58 = .ok (.aaload, 1) := by decide +kernel
theorem d_X_arrive_59 : decode b_X_arrive 59 = .ok (.dup, 1) := by decide +kernel
theorem d_X_arrive_60 : decode b_X_arrive 60 = .ok (.getfield 176, 3) := by decide +kernel
theorem d_X_arrive_63 : decode b_X_arrive 63 = .ok (.iconst 1, 1) := by decide +kernel
theorem d_X_arrive_64 : decode b_X_arrive 64 = .ok (.iadd, 1) := by decide +kernel
theorem d_X_arrive_65 : decode b_X_arrive 65 = .ok (.putfield 176, 3) := by decide +kernel
theorem d_X_arrive_68 : decode b_X_arrive 68 = .ok (.aload_n 2, 1) := by decide +kernel
theorem d_X_arrive_69 : decode b_X_arrive 69 = .ok (.getfield 232, 3) := by decide +kernel
theorem d_X_arrive_72 : decode b_X_arrive 72 = .ok (.ifCond .ne 18, 3) := by decide +kernel
theorem d_X_arrive_75 : decode b_X_arrive 75 = .ok (.aload_n 0, 1) := by decide +kernel
theorem d_X_arrive_76 : decode b_X_arrive 76 = .ok (.aload_n 2, 1) := by decide +kernel
theorem d_X_arrive_77 : decode b_X_arrive 77 = .ok (.getfield 151, 3) := by decide +kernel
theorem d_X_arrive_80 : decode b_X_arrive 80 = .ok (.aload_n 2, 1) := by decide +kernel
theorem d_X_arrive_81 : decode b_X_arrive 81 = .ok (.getfield 235, 3) := by decide +kernel
theorem d_X_arrive_84 : decode b_X_arrive 84 = .ok (.invokevirtual 238, 3) := by decide +kernel
theorem d_X_arrive_87 : decode b_X_arrive 87 = .ok (.goto 42, 3) := by decide +kernel
theorem d_X_arrive_90 : decode b_X_arrive 90 = .ok (.aload_n 2, 1) := by decide +kernel
theorem d_X_arrive_91 : decode b_X_arrive 91 = .ok (.getfield 235, 3) := by decide +kernel
theorem d_X_arrive_94 : decode b_X_arrive 94 = .ok (.aload_n 0, 1) := by decide +kernel
theorem d_X_arrive_95 : decode b_X_arrive 95 = .ok (.getfield 23, 3) := by decide +kernel
theorem d_X_arrive_98 : decode b_X_arrive 98 = .ok (.aload_n 2, 1) := by decide +kernel
theorem d_X_arrive_99 : decode b_X_arrive 99 = .ok (.getfield 151, 3) := by decide +kernel
theorem d_X_arrive_102 : decode b_X_arrive 102 = .ok (.aaload, 1) := by decide +kernel
theorem d_X_arrive_103 : decode b_X_arrive 103 = .ok (.getfield 164, 3) := by decide +kernel
theorem d_X_arrive_106 : decode b_X_arrive 106 = .ok (.if_icmp .le 23, 3) := by decide +kernel
theorem d_X_arrive_109 : decode b_X_arrive 109 = .ok (.aload_n 0, 1) := by decide +kernel
theorem d_X_arrive_110 : decode b_X_arrive 110 = .ok (.aload_n 2, 1) := by decide +kernel
theorem d_X_arrive_111 : decode b_X_arrive 111 = .ok (.getfield 151, 3) := by decide +kernel
theorem d_X_arrive_114 : decode b_X_arrive 114 = .ok (.aload_n 2, 1) := by decide +kernel
theorem d_X_arrive_115 : decode b_X_arrive 115 = .ok (.getfield 235, 3) := by decide +kernel
theorem d_X_arrive_118 : decode b_X_arrive 118 = .ok (.invokevirtual 241, 3) := by decide +kernel
theorem d_X_arrive_121 : decode b_X_arrive 121 = .ok (.aload_n 0, 1) := by decide +kernel
theorem d_X_arrive_122 : decode b_X_arrive 122 = .ok (.aload_n 2, 1) := by decide +kernel
theorem d_X_arrive_123 : decode b_X_arrive 123 = .ok (.getfield 151, 3) := by decide +kernel
theorem d_X_arrive_126 : decode b_X_arrive 126 = .ok (.invokevirtual 213, 3) := by decide +kernel
theorem d_X_arrive_129 : decode b_X_arrive 129 = .ok (.return_, 1) := by decide +kernel
theorem d_X_timeOut_0 : decode b_X_timeOut 0 = .ok (.aload_n 0, 1) := by decide +kernel
theorem d_X_timeOut_1 : decode b_X_timeOut 1 = .ok (.getfield 23, 3) := by decide +kernel
theorem d_X_timeOut_4 : decode b_X_timeOut 4 = .ok (.iload_n 1, 1) := by decide +kernel
theorem d_X_timeOut_5 : decode b_X_timeOut 5 = .ok (.aaload, 1) := by decide +kernel
theorem d_X_timeOut_6 : decode b_X_timeOut 6 = .ok (.astore_n 2, 1) := by decide +kernel
theorem d_X_timeOut_7 : decode b_X_timeOut 7 = .ok (.aload_n 0, 1) := by decide +kernel
theorem d_X_timeOut_8 : decode b_X_timeOut 8 = .ok (.iconst 4, 1) := by decide +kernel
theorem d_X_timeOut_9 : decode b_X_timeOut 9 = .ok (.iload_n 1, 1) := by decide +kernel
theorem d_X_timeOut_10 : decode b_X_timeOut 10 = .ok (.aload_n 2, 1) := by decide +kernel
theorem d_X_timeOut_11 : decode b_X_timeOut 11 = .ok (.getfield 164, 3) := by decide +kernel
theorem d_X_timeOut_14 : decode b_X_timeOut 14 = .ok (.invokevirtual 210, 3) := by decide +kernel
theorem d_X_timeOut_17 : decode b_X_timeOut 17 = .ok (.aload_n 2, 1) := by decide +kernel
theorem d_X_timeOut_18 : decode b_X_timeOut 18 = .ok (.dup, 1) := by decide +kernel
theorem d_X_timeOut_19 : decode b_X_timeOut 19 = .ok (.getfield 182, 3) := by decide +kernel
theorem d_X_timeOut_22 : decode b_X_timeOut 22 = .ok (.iconst 1, 1) := by decide +kernel
theorem d_X_timeOut_23 : decode b_X_timeOut 23 = .ok (.iadd, 1) := by decide +kernel
theorem d_X_timeOut_24 : decode b_X_timeOut 24 = .ok (.putfield 182, 3) := by decide +kernel
theorem d_X_timeOut_27 : decode b_X_timeOut 27 = .ok (.aload_n 2, 1) := by decide +kernel
theorem d_X_timeOut_28 : decode b_X_timeOut 28 = .ok (.aload_n 2, 1) := by decide +kernel
theorem d_X_timeOut_29 : decode b_X_timeOut 29 = .ok (.getfield 164, 3) := by decide +kernel
theorem d_X_timeOut_32 : decode b_X_timeOut 32 = .ok (.putfield 167, 3) := by decide +kernel
theorem d_X_timeOut_35 : decode b_X_timeOut 35 = .ok (.aload_n 0, 1) := by decide +kernel
theorem d_X_timeOut_36 : decode b_X_timeOut 36 = .ok (.iload_n 1, 1) := by decide +kernel
theorem d_X_timeOut_37 : decode b_X_timeOut 37 = .ok (.invokevirtual 213, 3) := by decide +kernel
theorem d_X_timeOut_40 : decode b_X_timeOut 40 = .ok (.return_, 1) := by decide +kernel
theorem d_X_happen_0 : decode b_X_happen 0 = .ok (.aload_n 0, 1) := by decide +kernel
theorem d_X_happen_1 : decode b_X_happen 1 = .ok (.getfield 38, 3) := by decide +kernel
theorem d_X_happen_4 : decode b_X_happen 4 = .ok (.invokevirtual 188, 3) := by decide +kernel
theorem d_X_happen_7 : decode b_X_happen 7 = .ok (.istore_n 1, 1) := by decide +kernel
theorem d_X_happen_8 : decode b_X_happen 8 = .ok (.iload_n 1, 1) := by decide +kernel
theorem d_X_happen_9 : decode b_X_happen 9 = .ok (.iconst (-1), 1) := by decide +kernel
theorem d_X_happen_10 : decode b_X_happen 10 = .ok (.if_icmp .ne 5, 3) := by decide +kernel
theorem d_X_happen_13 : decode b_X_happen 13 = .ok (.iconst 0, 1) := by decide +kernel
theorem d_X_happen_14 : decode b_X_happen 14 = .ok (.ireturn, 1) := by decide +kernel
theorem d_X_happen_15 : decode b_X_happen 15 = .ok (.aload_n 0, 1) := by decide +kernel
theorem d_X_happen_16 : decode b_X_happen 16 = .ok (.aload_n 0, 1) := by decide +kernel
theorem d_X_happen_17 : decode b_X_happen 17 = .ok (.getfield 38, 3) := by decide +kernel
theorem d_X_happen_20 : decode b_X_happen 20 = .ok (.getfield 161, 3) := by decide +kernel
theorem d_X_happen_23 : decode b_X_happen 23 = .ok (.iload_n 1, 1) := by decide +kernel
theorem d_X_happen_24 : decode b_X_happen 24 = .ok (.iaload, 1) := by decide +kernel
theorem d_X_happen_25 : decode b_X_happen 25 = .ok (.putfield 101, 3) := by decide +kernel
theorem d_X_happen_28 : decode b_X_happen 28 = .ok (.aload_n 0, 1) := by decide +kernel
theorem d_X_happen_29 : decode b_X_happen 29 = .ok (.getfield 38, 3) := by decide +kernel
theorem d_X_happen_32 : decode b_X_happen 32 = .ok (.getfield 191, 3) := by decide +kernel
theorem d_X_happen_35 : decode b_X_happen 35 = .ok (.iload_n 1, 1) := by decide +kernel
theorem d_X_happen_36 : decode b_X_happen 36 = .ok (.iaload, 1) := by decide +kernel
theorem d_X_happen_37 : decode b_X_happen 37 = .ok (.istore_n 2, 1) := by decide +kernel
theorem d_X_happen_38 : decode b_X_happen 38 = .ok (.aload_n 0, 1) := by decide +kernel
theorem d_X_happen_39 : decode b_X_happen 39 = .ok (.getfield 38, 3) := by decide +kernel
theorem d_X_happen_42 : decode b_X_happen 42 = .ok (.iload_n 1, 1) := by decide +kernel
theorem d_X_happen_43 : decode b_X_happen 43 = .ok (.invokevirtual 194, 3) := by decide +kernel
theorem d_X_happen_46 : decode b_X_happen 46 = .ok (.iload_n 2, 1) := by decide +kernel
theorem d_X_happen_47 : decode b_X_happen 47 = .ok (.tableswitch 55 1 3 #[25, 33, 44], 25) := by decide +kernel
theorem d_X_happen_72 : decode b_X_happen 72 = .ok (.aload_n 0, 1) := by decide +kernel
theorem d_X_happen_73 : decode b_X_happen 73 = .ok (.iload_n 1, 1) := by decide +kernel
theorem d_X_happen_74 : decode b_X_happen 74 = .ok (.invokevirtual 198, 3) := by decide +kernel
theorem d_X_happen_77 : decode b_X_happen 77 = .ok (.goto 30, 3) := by decide +kernel
theorem d_X_happen_80 : decode b_X_happen 80 = .ok (.aload_n 0, 1) := by decide +kernel
theorem d_X_happen_81 : decode b_X_happen 81 = .ok (.iload_n 1, 1) := by decide +kernel
theorem d_X_happen_82 : decode b_X_happen 82 = .ok (.bipush 6, 2) := by decide +kernel
theorem d_X_happen_84 : decode b_X_happen 84 = .ok (.isub, 1) := by decide +kernel
theorem d_X_happen_85 : decode b_X_happen 85 = .ok (.invokevirtual 201, 3) := by decide +kernel
theorem d_X_happen_88 : decode b_X_happen 88 = .ok (.goto 19, 3) := by decide +kernel
theorem d_X_happen_91 : decode b_X_happen 91 = .ok (.aload_n 0, 1) := by decide +kernel
theorem d_X_happen_92 : decode b_X_happen 92 = .ok (.iload_n 1, 1) := by decide +kernel
theorem d_X_happen_93 : decode b_X_happen 93 = .ok (.bipush 6, 2) := by decide +kernel
theorem d_X_happen_95 : decode b_X_happen 95 = .ok (.isub, 1) := by decide +kernel
theorem d_X_happen_96 : decode b_X_happen 96 = .ok (.invokevirtual 204, 3) := by decide +kernel
theorem d_X_happen_99 : decode b_X_happen 99 = .ok (.goto 8, 3) := by decide +kernel
theorem d_X_happen_102 : decode b_X_happen 102 = .ok (.aload_n 0, 1) := by decide +kernel
theorem d_X_happen_103 : decode b_X_happen 103 = .ok (.iload_n 1, 1) := by decide +kernel
theorem d_X_happen_104 : decode b_X_happen 104 = .ok (.invokevirtual 207, 3) := by decide +kernel
theorem d_X_happen_107 : decode b_X_happen 107 = .ok (.iconst 1, 1) := by decide +kernel
theorem d_X_happen_108 : decode b_X_happen 108 = .ok (.ireturn, 1) := by decide +kernel
theorem d_X_step_0 : decode b_X_step 0 = .ok (.aload_n 0, 1) := by decide +kernel
theorem d_X_step_1 : decode b_X_step 1 = .ok (.invokevirtual 121, 3) := by decide +kernel
theorem d_X_step_4 : decode b_X_step 4 = .ok (.aload_n 0, 1) := by decide +kernel
theorem d_X_step_5 : decode b_X_step 5 = .ok (.invokevirtual 124, 3) := by decide +kernel
theorem d_X_step_8 : decode b_X_step 8 = .ok (.ireturn, 1) := by decide +kernel
theorem d_X_run_0 : decode b_X_run 0 = .ok (.iload_n 1, 1) := by decide +kernel
theorem d_X_run_1 : decode b_X_run 1 = .ok (.iconst 0, 1) := by decide +kernel
theorem d_X_run_2 : decode b_X_run 2 = .ok (.bipush 50, 2) := by decide +kernel
theorem d_X_run_4 : decode b_X_run 4 = .ok (.invokestatic 61, 3) := by decide +kernel
theorem d_X_run_7 : decode b_X_run 7 = .ok (.ifCond .ne 5, 3) := by decide +kernel
theorem d_X_run_10 : decode b_X_run 10 = .ok (.iconst (-1), 1) := by decide +kernel
theorem d_X_run_11 : decode b_X_run 11 = .ok (.ireturn, 1) := by decide +kernel
theorem d_X_run_12 : decode b_X_run 12 = .ok (.iload_n 1, 1) := by decide +kernel
theorem d_X_run_13 : decode b_X_run 13 = .ok (.ifCond .le 7, 3) := by decide +kernel
theorem d_X_run_16 : decode b_X_run 16 = .ok (.aload_n 0, 1) := by decide +kernel
theorem d_X_run_17 : decode b_X_run 17 = .ok (.invokevirtual 121, 3) := by decide +kernel
theorem d_X_run_20 : decode b_X_run 20 = .ok (.iconst 0, 1) := by decide +kernel
theorem d_X_run_21 : decode b_X_run 21 = .ok (.istore_n 2, 1) := by decide +kernel
theorem d_X_run_22 : decode b_X_run 22 = .ok (.iload_n 2, 1) := by decide +kernel
theorem d_X_run_23 : decode b_X_run 23 = .ok (.iload_n 1, 1) := by decide +kernel
theorem d_X_run_24 : decode b_X_run 24 = .ok (.if_icmp .ge 16, 3) := by decide +kernel
theorem d_X_run_27 : decode b_X_run 27 = .ok (.aload_n 0, 1) := by decide +kernel
theorem d_X_run_28 : decode b_X_run 28 = .ok (.invokevirtual 124, 3) := by decide +kernel
theorem d_X_run_31 : decode b_X_run 31 = .ok (.ifCond .eq 9, 3) := by decide +kernel
theorem d_X_run_34 : decode b_X_run 34 = .ok (.iinc 2 1, 3) := by decide +kernel
theorem d_X_run_37 : decode b_X_run 37 = .ok (.goto (-15), 3) := by decide +kernel
theorem d_X_run_40 : decode b_X_run 40 = .ok (.iload_n 2, 1) := by decide +kernel
theorem d_X_run_41 : decode b_X_run 41 = .ok (.ireturn, 1) := by decide +kernel
theorem d_X_now_0 : decode b_X_now 0 = .ok (.aload_n 0, 1) := by decide +kernel
theorem d_X_now_1 : decode b_X_now 1 = .ok (.getfield 101, 3) := by decide +kernel
theorem d_X_now_4 : decode b_X_now 4 = .ok (.ireturn, 1) := by decide +kernel
theorem d_X_trace_0 : decode b_X_trace 0 = .ok (.iload_n 1, 1) := by decide +kernel
theorem d_X_trace_1 : decode b_X_trace 1 = .ok (.iconst 0, 1) := by decide +kernel
theorem d_X_trace_2 : decode b_X_trace 2 = .ok (.bipush 15, 2) := by decide +kernel
theorem d_X_trace_4 : decode b_X_trace 4 = .ok (.invokestatic 61, 3) := by decide +kernel
theorem d_X_trace_7 : decode b_X_trace 7 = .ok (.ifCond .eq 12, 3) := by decide +kernel
theorem d_X_trace_10 : decode b_X_trace 10 = .ok (.aload_n 0, 1) := by decide +kernel
theorem d_X_trace_11 : decode b_X_trace 11 = .ok (.getfield 42, 3) := by decide +kernel
theorem d_X_trace_14 : decode b_X_trace 14 = .ok (.iload_n 1, 1) := by decide +kernel
theorem d_X_trace_15 : decode b_X_trace 15 = .ok (.laload, 1) := by decide +kernel
theorem d_X_trace_16 : decode b_X_trace 16 = .ok (.goto 6, 3) := by decide +kernel
theorem d_X_trace_19 : decode b_X_trace 19 = .ok (.ldc2_w 116, 3) := by decide +kernel
theorem d_X_trace_22 : decode b_X_trace 22 = .ok (.lreturn, 1) := by decide +kernel
theorem d_X_distance_0 : decode b_X_distance 0 = .ok (.iload_n 1, 1) := by decide +kernel
theorem d_X_distance_1 : decode b_X_distance 1 = .ok (.invokestatic 57, 3) := by decide +kernel
theorem d_X_distance_4 : decode b_X_distance 4 = .ok (.ifCond .eq 21, 3) := by decide +kernel
theorem d_X_distance_7 : decode b_X_distance 7 = .ok (.iload_n 2, 1) := by decide +kernel
theorem d_X_distance_8 : decode b_X_distance 8 = .ok (.invokestatic 57, 3) := by decide +kernel
theorem d_X_distance_11 : decode b_X_distance 11 = .ok (.ifCond .eq 14, 3) := by decide +kernel
theorem d_X_distance_14 : decode b_X_distance 14 = .ok (.aload_n 0, 1) := by decide +kernel
theorem d_X_distance_15 : decode b_X_distance 15 = .ok (.getfield 11, 3) := by decide +kernel
theorem d_X_distance_18 : decode b_X_distance 18 = .ok (.iload_n 1, 1) := by decide +kernel
theorem d_X_distance_19 : decode b_X_distance 19 = .ok (.aaload, 1) := by decide +kernel
theorem d_X_distance_20 : decode b_X_distance 20 = .ok (.iload_n 2, 1) := by decide +kernel
theorem d_X_distance_21 : decode b_X_distance 21 = .ok (.iaload, 1) := by decide +kernel
theorem d_X_distance_22 : decode b_X_distance 22 = .ok (.goto 4, 3) := by decide +kernel
theorem d_X_distance_25 : decode b_X_distance 25 = .ok (.iconst (-1), 1) := by decide +kernel
theorem d_X_distance_26 : decode b_X_distance 26 = .ok (.ireturn, 1) := by decide +kernel
theorem d_X_waiting_0 : decode b_X_waiting 0 = .ok (.aload_n 0, 1) := by decide +kernel
theorem d_X_waiting_1 : decode b_X_waiting 1 = .ok (.iload_n 1, 1) := by decide +kernel
theorem d_X_waiting_2 : decode b_X_waiting 2 = .ok (.invokevirtual 73, 3) := by decide +kernel
theorem d_X_waiting_5 : decode b_X_waiting 5 = .ok (.ifCond .ne 5, 3) := by decide +kernel
theorem d_X_waiting_8 : decode b_X_waiting 8 = .ok (.iconst (-1), 1) := by decide +kernel
theorem d_X_waiting_9 : decode b_X_waiting 9 = .ok (.ireturn, 1) := by decide +kernel
theorem d_X_waiting_10 : decode b_X_waiting 10 = .ok (.iload_n 2, 1) := by decide +kernel
theorem d_X_waiting_11 : decode b_X_waiting 11 = .ok (.iconst (-1), 1) := by decide +kernel
theorem d_X_waiting_12 : decode b_X_waiting 12 = .ok (.if_icmp .ne 13, 3) := by decide +kernel
theorem d_X_waiting_15 : decode b_X_waiting 15 = .ok (.aload_n 0, 1) := by decide +kernel
theorem d_X_waiting_16 : decode b_X_waiting 16 = .ok (.getfield 16, 3) := by decide +kernel
theorem d_X_waiting_19 : decode b_X_waiting 19 = .ok (.iload_n 1, 1) := by decide +kernel
theorem d_X_waiting_20 : decode b_X_waiting 20 = .ok (.aaload, 1) := by decide +kernel
theorem d_X_waiting_21 : decode b_X_waiting 21 = .ok (.getfield 137, 3) := by decide +kernel
theorem d_X_waiting_24 : decode b_X_waiting 24 = .ok (.ireturn, 1) := by decide +kernel
theorem d_X_waiting_25 : decode b_X_waiting 25 = .ok (.aload_n 0, 1) := by decide +kernel
theorem d_X_waiting_26 : decode b_X_waiting 26 = .ok (.iload_n 2, 1) := by decide +kernel
theorem d_X_waiting_27 : decode b_X_waiting 27 = .ok (.invokevirtual 89, 3) := by decide +kernel
theorem d_X_waiting_30 : decode b_X_waiting 30 = .ok (.ifCond .eq 17, 3) := by decide +kernel
theorem d_X_waiting_33 : decode b_X_waiting 33 = .ok (.aload_n 0, 1) := by decide +kernel
theorem d_X_waiting_34 : decode b_X_waiting 34 = .ok (.aload_n 0, 1) := by decide +kernel
theorem d_X_waiting_35 : decode b_X_waiting 35 = .ok (.getfield 16, 3) := by decide +kernel
theorem d_X_waiting_38 : decode b_X_waiting 38 = .ok (.iload_n 1, 1) := by decide +kernel
theorem d_X_waiting_39 : decode b_X_waiting 39 = .ok (.aaload, 1) := by decide +kernel
theorem d_X_waiting_40 : decode b_X_waiting 40 = .ok (.iload_n 2, 1) := by decide +kernel
theorem d_X_waiting_41 : decode b_X_waiting 41 = .ok (.invokevirtual 140, 3) := by decide +kernel
theorem d_X_waiting_44 : decode b_X_waiting 44 = .ok (.goto 4, 3) := by decide +kernel
theorem d_X_waiting_47 : decode b_X_waiting 47 = .ok (.iconst (-1), 1) := by decide +kernel
theorem d_X_waiting_48 : decode b_X_waiting 48 = .ok (.ireturn, 1) := by decide +kernel
theorem d_X_deficit_0 : decode b_X_deficit 0 = .ok (.aload_n 0, 1) := by decide +kernel
theorem d_X_deficit_1 : decode b_X_deficit 1 = .ok (.iload_n 1, 1) := by decide +kernel
theorem d_X_deficit_2 : decode b_X_deficit 2 = .ok (.invokevirtual 73, 3) := by decide +kernel
theorem d_X_deficit_5 : decode b_X_deficit 5 = .ok (.ifCond .eq 25, 3) := by decide +kernel
theorem d_X_deficit_8 : decode b_X_deficit 8 = .ok (.aload_n 0, 1) := by decide +kernel
theorem d_X_deficit_9 : decode b_X_deficit 9 = .ok (.iload_n 2, 1) := by decide +kernel
theorem d_X_deficit_10 : decode b_X_deficit 10 = .ok (.invokevirtual 89, 3) := by decide +kernel
theorem d_X_deficit_13 : decode b_X_deficit 13 = .ok (.ifCond .eq 17, 3) := by decide +kernel
theorem d_X_deficit_16 : decode b_X_deficit 16 = .ok (.aload_n 0, 1) := by decide +kernel
theorem d_X_deficit_17 : decode b_X_deficit 17 = .ok (.getfield 16, 3) := by decide +kernel
theorem d_X_deficit_20 : decode b_X_deficit 20 = .ok (.iload_n 1, 1) := by decide +kernel
theorem d_X_deficit_21 : decode b_X_deficit 21 = .ok (.aaload, 1) := by decide +kernel
theorem d_X_deficit_22 : decode b_X_deficit 22 = .ok (.getfield 144, 3) := by decide +kernel
theorem d_X_deficit_25 : decode b_X_deficit 25 = .ok (.iload_n 2, 1) := by decide +kernel
theorem d_X_deficit_26 : decode b_X_deficit 26 = .ok (.iaload, 1) := by decide +kernel
theorem d_X_deficit_27 : decode b_X_deficit 27 = .ok (.goto 4, 3) := by decide +kernel
theorem d_X_deficit_30 : decode b_X_deficit 30 = .ok (.iconst (-1), 1) := by decide +kernel
theorem d_X_deficit_31 : decode b_X_deficit 31 = .ok (.ireturn, 1) := by decide +kernel
theorem d_X_onPort_0 : decode b_X_onPort 0 = .ok (.aload_n 0, 1) := by decide +kernel
theorem d_X_onPort_1 : decode b_X_onPort 1 = .ok (.iload_n 1, 1) := by decide +kernel
theorem d_X_onPort_2 : decode b_X_onPort 2 = .ok (.invokevirtual 73, 3) := by decide +kernel
theorem d_X_onPort_5 : decode b_X_onPort 5 = .ok (.ifCond .eq 16, 3) := by decide +kernel
theorem d_X_onPort_8 : decode b_X_onPort 8 = .ok (.aload_n 0, 1) := by decide +kernel
theorem d_X_onPort_9 : decode b_X_onPort 9 = .ok (.getfield 16, 3) := by decide +kernel
theorem d_X_onPort_12 : decode b_X_onPort 12 = .ok (.iload_n 1, 1) := by decide +kernel
theorem d_X_onPort_13 : decode b_X_onPort 13 = .ok (.aaload, 1) := by decide +kernel
theorem d_X_onPort_14 : decode b_X_onPort 14 = .ok (.getfield 148, 3) := by decide +kernel
theorem d_X_onPort_17 : decode b_X_onPort 17 = .ok (.iconst (-1), 1) := by decide +kernel
theorem d_X_onPort_18 : decode b_X_onPort 18 = .ok (.if_icmp .ne 5, 3) := by decide +kernel
theorem d_X_onPort_21 : decode b_X_onPort 21 = .ok (.iconst (-1), 1) := by decide +kernel
theorem d_X_onPort_22 : decode b_X_onPort 22 = .ok (.ireturn, 1) := by decide +kernel
theorem d_X_onPort_23 : decode b_X_onPort 23 = .ok (.aload_n 0, 1) := by decide +kernel
theorem d_X_onPort_24 : decode b_X_onPort 24 = .ok (.getfield 30, 3) := by decide +kernel
theorem d_X_onPort_27 : decode b_X_onPort 27 = .ok (.aload_n 0, 1) := by decide +kernel
theorem d_X_onPort_28 : decode b_X_onPort 28 = .ok (.getfield 16, 3) := by decide +kernel
theorem d_X_onPort_31 : decode b_X_onPort 31 = .ok (.iload_n 1, 1) := by decide +kernel
theorem d_X_onPort_32 : decode b_X_onPort 32 = .ok (.aaload, 1) := by decide +kernel
theorem d_X_onPort_33 : decode b_X_onPort 33 = .ok (.getfield 148, 3) := by decide +kernel
theorem d_X_onPort_36 : decode b_X_onPort 36 = .ok (.aaload, 1) := by decide +kernel
theorem d_X_onPort_37 : decode b_X_onPort 37 = .ok (.astore_n 2, 1) := by decide +kernel
theorem d_X_onPort_38 : decode b_X_onPort 38 = .ok (.sipush 256, 3) := by decide +kernel
theorem d_X_onPort_41 : decode b_X_onPort 41 = .ok (.aload_n 2, 1) := by decide +kernel
theorem d_X_onPort_42 : decode b_X_onPort 42 = .ok (.getfield 151, 3) := by decide +kernel
theorem d_X_onPort_45 : decode b_X_onPort 45 = .ok (.imul, 1) := by decide +kernel
theorem d_X_onPort_46 : decode b_X_onPort 46 = .ok (.aload_n 2, 1) := by decide +kernel
theorem d_X_onPort_47 : decode b_X_onPort 47 = .ok (.invokevirtual 154, 3) := by decide +kernel
theorem d_X_onPort_50 : decode b_X_onPort 50 = .ok (.iadd, 1) := by decide +kernel
theorem d_X_onPort_51 : decode b_X_onPort 51 = .ok (.ireturn, 1) := by decide +kernel
theorem d_X_timer_0 : decode b_X_timer 0 = .ok (.aload_n 0, 1) := by decide +kernel
theorem d_X_timer_1 : decode b_X_timer 1 = .ok (.iload_n 1, 1) := by decide +kernel
theorem d_X_timer_2 : decode b_X_timer 2 = .ok (.invokevirtual 89, 3) := by decide +kernel
theorem d_X_timer_5 : decode b_X_timer 5 = .ok (.ifCond .eq 23, 3) := by decide +kernel
theorem d_X_timer_8 : decode b_X_timer 8 = .ok (.aload_n 0, 1) := by decide +kernel
theorem d_X_timer_9 : decode b_X_timer 9 = .ok (.iload_n 1, 1) := by decide +kernel
theorem d_X_timer_10 : decode b_X_timer 10 = .ok (.invokevirtual 158, 3) := by decide +kernel
theorem d_X_timer_13 : decode b_X_timer 13 = .ok (.ifCond .eq 15, 3) := by decide +kernel
theorem d_X_timer_16 : decode b_X_timer 16 = .ok (.aload_n 0, 1) := by decide +kernel
theorem d_X_timer_17 : decode b_X_timer 17 = .ok (.getfield 38, 3) := by decide +kernel
theorem d_X_timer_20 : decode b_X_timer 20 = .ok (.getfield 161, 3) := by decide +kernel
theorem d_X_timer_23 : decode b_X_timer 23 = .ok (.iload_n 1, 1) := by decide +kernel
theorem d_X_timer_24 : decode b_X_timer 24 = .ok (.iaload, 1) := by decide +kernel
theorem d_X_timer_25 : decode b_X_timer 25 = .ok (.goto 4, 3) := by decide +kernel
theorem d_X_timer_28 : decode b_X_timer 28 = .ok (.iconst (-1), 1) := by decide +kernel
theorem d_X_timer_29 : decode b_X_timer 29 = .ok (.ireturn, 1) := by decide +kernel
theorem d_X_count_0 : decode b_X_count 0 = .ok (.aload_n 0, 1) := by decide +kernel
theorem d_X_count_1 : decode b_X_count 1 = .ok (.iload_n 1, 1) := by decide +kernel
theorem d_X_count_2 : decode b_X_count 2 = .ok (.invokevirtual 89, 3) := by decide +kernel
theorem d_X_count_5 : decode b_X_count 5 = .ok (.ifCond .ne 5, 3) := by decide +kernel
theorem d_X_count_8 : decode b_X_count 8 = .ok (.iconst (-1), 1) := by decide +kernel
theorem d_X_count_9 : decode b_X_count 9 = .ok (.ireturn, 1) := by decide +kernel
theorem d_X_count_10 : decode b_X_count 10 = .ok (.iload_n 2, 1) := by decide +kernel
theorem d_X_count_11 : decode b_X_count 11 = .ok (.tableswitch 111 0 6 #[41, 51, 61, 71, 81, 91, 101], 41) := by decide +kernel
theorem d_X_count_52 : decode b_X_count 52 = .ok (.aload_n 0, 1) := by decide +kernel
theorem d_X_count_53 : decode b_X_count 53 = .ok (.getfield 23, 3) := by decide +kernel
theorem d_X_count_56 : decode b_X_count 56 = .ok (.iload_n 1, 1) := by decide +kernel
theorem d_X_count_57 : decode b_X_count 57 = .ok (.aaload, 1) := by decide +kernel
theorem d_X_count_58 : decode b_X_count 58 = .ok (.getfield 164, 3) := by decide +kernel
theorem d_X_count_61 : decode b_X_count 61 = .ok (.ireturn, 1) := by decide +kernel
theorem d_X_count_62 : decode b_X_count 62 = .ok (.aload_n 0, 1) := by decide +kernel
theorem d_X_count_63 : decode b_X_count 63 = .ok (.getfield 23, 3) := by decide +kernel
theorem d_X_count_66 : decode b_X_count 66 = .ok (.iload_n 1, 1) := by decide +kernel
theorem d_X_count_67 : decode b_X_count 67 = .ok (.aaload, 1) := by decide +kernel
theorem d_X_count_68 : decode b_X_count 68 = .ok (.getfield 167, 3) := by decide +kernel
theorem d_X_count_71 : decode b_X_count 71 = .ok (.ireturn, 1) := by decide +kernel
theorem d_X_count_72 : decode b_X_count 72 = .ok (.aload_n 0, 1) := by decide +kernel
theorem d_X_count_73 : decode b_X_count 73 = .ok (.getfield 23, 3) := by decide +kernel
theorem d_X_count_76 : decode b_X_count 76 = .ok (.iload_n 1, 1) := by decide +kernel
theorem d_X_count_77 : decode b_X_count 77 = .ok (.aaload, 1) := by decide +kernel
theorem d_X_count_78 : decode b_X_count 78 = .ok (.getfield 170, 3) := by decide +kernel
theorem d_X_count_81 : decode b_X_count 81 = .ok (.ireturn, 1) := by decide +kernel
theorem d_X_count_82 : decode b_X_count 82 = .ok (.aload_n 0, 1) := by decide +kernel
theorem d_X_count_83 : decode b_X_count 83 = .ok (.getfield 23, 3) := by decide +kernel
theorem d_X_count_86 : decode b_X_count 86 = .ok (.iload_n 1, 1) := by decide +kernel
theorem d_X_count_87 : decode b_X_count 87 = .ok (.aaload, 1) := by decide +kernel
theorem d_X_count_88 : decode b_X_count 88 = .ok (.getfield 173, 3) := by decide +kernel
theorem d_X_count_91 : decode b_X_count 91 = .ok (.ireturn, 1) := by decide +kernel
theorem d_X_count_92 : decode b_X_count 92 = .ok (.aload_n 0, 1) := by decide +kernel
theorem d_X_count_93 : decode b_X_count 93 = .ok (.getfield 23, 3) := by decide +kernel
theorem d_X_count_96 : decode b_X_count 96 = .ok (.iload_n 1, 1) := by decide +kernel
theorem d_X_count_97 : decode b_X_count 97 = .ok (.aaload, 1) := by decide +kernel
theorem d_X_count_98 : decode b_X_count 98 = .ok (.getfield 176, 3) := by decide +kernel
theorem d_X_count_101 : decode b_X_count 101 = .ok (.ireturn, 1) := by decide +kernel
theorem d_X_count_102 : decode b_X_count 102 = .ok (.aload_n 0, 1) := by decide +kernel
theorem d_X_count_103 : decode b_X_count 103 = .ok (.getfield 23, 3) := by decide +kernel
theorem d_X_count_106 : decode b_X_count 106 = .ok (.iload_n 1, 1) := by decide +kernel
theorem d_X_count_107 : decode b_X_count 107 = .ok (.aaload, 1) := by decide +kernel
theorem d_X_count_108 : decode b_X_count 108 = .ok (.getfield 179, 3) := by decide +kernel
theorem d_X_count_111 : decode b_X_count 111 = .ok (.ireturn, 1) := by decide +kernel
theorem d_X_count_112 : decode b_X_count 112 = .ok (.aload_n 0, 1) := by decide +kernel
theorem d_X_count_113 : decode b_X_count 113 = .ok (.getfield 23, 3) := by decide +kernel
theorem d_X_count_116 : decode b_X_count 116 = .ok (.iload_n 1, 1) := by decide +kernel
theorem d_X_count_117 : decode b_X_count 117 = .ok (.aaload, 1) := by decide +kernel
theorem d_X_count_118 : decode b_X_count 118 = .ok (.getfield 182, 3) := by decide +kernel
theorem d_X_count_121 : decode b_X_count 121 = .ok (.ireturn, 1) := by decide +kernel
theorem d_X_count_122 : decode b_X_count 122 = .ok (.iconst (-1), 1) := by decide +kernel
theorem d_X_count_123 : decode b_X_count 123 = .ok (.ireturn, 1) := by decide +kernel
end
section
theorem d_Y_lesser_0 : decode b_Y_lesser 0 = .ok (.iload_n 0, 1) := by decide +kernel
theorem d_Y_lesser_1 : decode b_Y_lesser 1 = .ok (.iload_n 1, 1) := by decide +kernel
theorem d_Y_lesser_2 : decode b_Y_lesser 2 = .ok (.if_icmp .ge 7, 3) := by decide +kernel
theorem d_Y_lesser_5 : decode b_Y_lesser 5 = .ok (.iload_n 0, 1) := by decide +kernel
theorem d_Y_lesser_6 : decode b_Y_lesser 6 = .ok (.goto 4, 3) := by decide +kernel
theorem d_Y_lesser_9 : decode b_Y_lesser 9 = .ok (.iload_n 1, 1) := by decide +kernel
theorem d_Y_lesser_10 : decode b_Y_lesser 10 = .ok (.ireturn, 1) := by decide +kernel
theorem d_Y_measure_0 : decode b_Y_measure 0 = .ok (.iconst 0, 1) := by decide +kernel
theorem d_Y_measure_1 : decode b_Y_measure 1 = .ok (.istore_n 1, 1) := by decide +kernel
theorem d_Y_measure_2 : decode b_Y_measure 2 = .ok (.iload_n 1, 1) := by decide +kernel
theorem d_Y_measure_3 : decode b_Y_measure 3 = .ok (.bipush 8, 2) := by decide +kernel
theorem d_Y_measure_5 : decode b_Y_measure 5 = .ok (.if_icmp .ge 45, 3) := by decide +kernel
theorem d_Y_measure_8 : decode b_Y_measure 8 = .ok (.iconst 0, 1) := by decide +kernel
theorem d_Y_measure_9 : decode b_Y_measure 9 = .ok (.istore_n 2, 1) := by decide +kernel
theorem d_Y_measure_10 : decode b_Y_measure 10 = .ok (.iload_n 2, 1) := by decide +kernel
theorem d_Y_measure_11 : decode b_Y_measure 11 = .ok (.bipush 8, 2) := by decide +kernel
theorem d_Y_measure_13 : decode b_Y_measure 13 = .ok (.if_icmp .ge 31, 3) := by decide +kernel
theorem d_Y_measure_16 : decode b_Y_measure 16 = .ok (.aload_n 0, 1) := by decide +kernel
theorem d_Y_measure_17 : decode b_Y_measure 17 = .ok (.getfield 31, 3) := by decide +kernel
theorem d_Y_measure_20 : decode b_Y_measure 20 = .ok (.bipush 8, 2) := by decide +kernel
theorem d_Y_measure_22 : decode b_Y_measure 22 = .ok (.iload_n 1, 1) := by decide +kernel
theorem d_Y_measure_23 : decode b_Y_measure 23 = .ok (.imul, 1) := by decide +kernel
theorem d_Y_measure_24 : decode b_Y_measure 24 = .ok (.iload_n 2, 1) := by decide +kernel
theorem d_Y_measure_25 : decode b_Y_measure 25 = .ok (.iadd, 1) := by decide +kernel
theorem d_Y_measure_26 : decode b_Y_measure 26 = .ok (.iload_n 1, 1) := by decide +kernel
theorem d_Y_measure_27 : decode b_Y_measure 27 = .ok (.iload_n 2, 1) := by decide +kernel
theorem d_Y_measure_28 : decode b_Y_measure 28 = .ok (.if_icmp .ne 7, 3) := by decide +kernel
theorem d_Y_measure_31 : decode b_Y_measure 31 = .ok (.iconst 0, 1) := by decide +kernel
theorem d_Y_measure_32 : decode b_Y_measure 32 = .ok (.goto 5, 3) := by decide +kernel
theorem d_Y_measure_35 : decode b_Y_measure 35 = .ok (.ldc 154, 2) := by decide +kernel
theorem d_Y_measure_37 : decode b_Y_measure 37 = .ok (.iastore, 1) := by decide +kernel
theorem d_Y_measure_38 : decode b_Y_measure 38 = .ok (.iinc 2 1, 3) := by decide +kernel
theorem d_Y_measure_41 : decode b_Y_measure 41 = .ok (.goto (-31), 3) := by decide +kernel
theorem d_Y_measure_44 : decode b_Y_measure 44 = .ok (.iinc 1 1, 3) := by decide +kernel
theorem d_Y_measure_47 : decode b_Y_measure 47 = .ok (.goto (-45), 3) := by decide +kernel
theorem d_Y_measure_50 : decode b_Y_measure 50 = .ok (.iconst 0, 1) := by decide +kernel
theorem d_Y_measure_51 : decode b_Y_measure 51 = .ok (.istore_n 1, 1) := by decide +kernel
theorem d_Y_measure_52 : decode b_Y_measure 52 = .ok (.iload_n 1, 1) := by decide +kernel
theorem d_Y_measure_53 : decode b_Y_measure 53 = .ok (.aload_n 0, 1) := by decide +kernel
theorem d_Y_measure_54 : decode b_Y_measure 54 = .ok (.getfield 117, 3) := by decide +kernel
theorem d_Y_measure_57 : decode b_Y_measure 57 = .ok (.if_icmp .ge 85, 3) := by decide +kernel
theorem d_Y_measure_60 : decode b_Y_measure 60 = .ok (.bipush 8, 2) := by decide +kernel
theorem d_Y_measure_62 : decode b_Y_measure 62 = .ok (.aload_n 0, 1) := by decide +kernel
theorem d_Y_measure_63 : decode b_Y_measure 63 = .ok (.getfield 7, 3) := by decide +kernel
theorem d_Y_measure_66 : decode b_Y_measure 66 = .ok (.iload_n 1, 1) := by decide +kernel
theorem d_Y_measure_67 : decode b_Y_measure 67 = .ok (.iaload, 1) := by decide +kernel
theorem d_Y_measure_68 : decode b_Y_measure 68 = .ok (.imul, 1) := by decide +kernel
theorem d_Y_measure_69 : decode b_Y_measure 69 = .ok (.aload_n 0, 1) := by decide +kernel
theorem d_Y_measure_70 : decode b_Y_measure 70 = .ok (.getfield 13, 3) := by decide +kernel
theorem d_Y_measure_73 : decode b_Y_measure 73 = .ok (.iload_n 1, 1) := by decide +kernel
theorem d_Y_measure_74 : decode b_Y_measure 74 = .ok (.iaload, 1) := by decide +kernel
theorem d_Y_measure_75 : decode b_Y_measure 75 = .ok (.iadd, 1) := by decide +kernel
theorem d_Y_measure_76 : decode b_Y_measure 76 = .ok (.istore_n 2, 1) := by decide +kernel
theorem d_Y_measure_77 : decode b_Y_measure 77 = .ok (.bipush 8, 2) := by decide +kernel
theorem d_Y_measure_79 : decode b_Y_measure 79 = .ok (.aload_n 0, 1) := by decide +kernel
theorem d_Y_measure_80 : decode b_Y_measure 80 = .ok (.getfield 13, 3) := by decide +kernel
theorem d_Y_measure_83 : decode b_Y_measure 83 = .ok (.iload_n 1, 1) := by decide +kernel
theorem d_Y_measure_84 : decode b_Y_measure 84 = .ok (.iaload, 1) := by decide +kernel
theorem d_Y_measure_85 : decode b_Y_measure 85 = .ok (.imul, 1) := by decide +kernel
theorem d_Y_measure_86 : decode b_Y_measure 86 = .ok (.aload_n 0, 1) := by decide +kernel
theorem d_Y_measure_87 : decode b_Y_measure 87 = .ok (.getfield 7, 3) := by decide +kernel
theorem d_Y_measure_90 : decode b_Y_measure 90 = .ok (.iload_n 1, 1) := by decide +kernel
theorem d_Y_measure_91 : decode b_Y_measure 91 = .ok (.iaload, 1) := by decide +kernel
theorem d_Y_measure_92 : decode b_Y_measure 92 = .ok (.iadd, 1) := by decide +kernel
theorem d_Y_measure_93 : decode b_Y_measure 93 = .ok (.istore_n 3, 1) := by decide +kernel
theorem d_Y_measure_94 : decode b_Y_measure 94 = .ok (.aload_n 0, 1) := by decide +kernel
theorem d_Y_measure_95 : decode b_Y_measure 95 = .ok (.getfield 31, 3) := by decide +kernel
theorem d_Y_measure_98 : decode b_Y_measure 98 = .ok (.iload_n 2, 1) := by decide +kernel
theorem d_Y_measure_99 : decode b_Y_measure 99 = .ok (.aload_n 0, 1) := by decide +kernel
theorem d_Y_measure_100 : decode b_Y_measure 100 = .ok (.getfield 31, 3) := by decide +kernel
theorem d_Y_measure_103 : decode b_Y_measure 103 = .ok (.iload_n 2, 1) := by decide +kernel
theorem d_Y_measure_104 : decode b_Y_measure 104 = .ok (.iaload, 1) := by decide +kernel
theorem d_Y_measure_105 : decode b_Y_measure 105 = .ok (.aload_n 0, 1) := by decide +kernel
theorem d_Y_measure_106 : decode b_Y_measure 106 = .ok (.getfield 16, 3) := by decide +kernel
theorem d_Y_measure_109 : decode b_Y_measure 109 = .ok (.iload_n 1, 1) := by decide +kernel
theorem d_Y_measure_110 : decode b_Y_measure 110 = .ok (.iaload, 1) := by decide +kernel
theorem d_Y_measure_111 : decode b_Y_measure 111 = .ok (.invokestatic 155, 3) := by decide +kernel
theorem d_Y_measure_114 : decode b_Y_measure 114 = .ok (.iastore, 1) := by decide +kernel
theorem d_Y_measure_115 : decode b_Y_measure 115 = .ok (.aload_n 0, 1) := by decide +kernel
theorem d_Y_measure_116 : decode b_Y_measure 116 = .ok (.getfield 31, 3) := by decide +kernel
theorem d_Y_measure_119 : decode b_Y_measure 119 = .ok (.iload_n 3, 1) := by decide +kernel
theorem d_Y_measure_120 : decode b_Y_measure 120 = .ok (.aload_n 0, 1) := by decide +kernel
theorem d_Y_measure_121 : decode b_Y_measure 121 = .ok (.getfield 31, 3) := by decide +kernel
theorem d_Y_measure_124 : decode b_Y_measure 124 = .ok (.iload_n 3, 1) := by decide +kernel
theorem d_Y_measure_125 : decode b_Y_measure 125 = .ok (.iaload, 1) := by decide +kernel
theorem d_Y_measure_126 : decode b_Y_measure 126 = .ok (.aload_n 0, 1) := by decide +kernel
theorem d_Y_measure_127 : decode b_Y_measure 127 = .ok (.getfield 16, 3) := by decide +kernel
theorem d_Y_measure_130 : decode b_Y_measure 130 = .ok (.iload_n 1, 1) := by decide +kernel
theorem d_Y_measure_131 : decode b_Y_measure 131 = .ok (.iaload, 1) := by decide +kernel
theorem d_Y_measure_132 : decode b_Y_measure 132 = .ok (.invokestatic 155, 3) := by decide +kernel
theorem d_Y_measure_135 : decode b_Y_measure 135 = .ok (.iastore, 1) := by decide +kernel
theorem d_Y_measure_136 : decode b_Y_measure 136 = .ok (.iinc 1 1, 3) := by decide +kernel
theorem d_Y_measure_139 : decode b_Y_measure 139 = .ok (.goto (-87), 3) := by decide +kernel
theorem d_Y_measure_142 : decode b_Y_measure 142 = .ok (.iconst 0, 1) := by decide +kernel
theorem d_Y_measure_143 : decode b_Y_measure 143 = .ok (.istore_n 1, 1) := by decide +kernel
theorem d_Y_measure_144 : decode b_Y_measure 144 = .ok (.iload_n 1, 1) := by decide +kernel
theorem d_Y_measure_145 : decode b_Y_measure 145 = .ok (.bipush 8, 2) := by decide +kernel
theorem d_Y_measure_147 : decode b_Y_measure 147 = .ok (.if_icmp .ge 85, 3) := by decide +kernel
theorem d_Y_measure_150 : decode b_Y_measure 150 = .ok (.iconst 0, 1) := by decide +kernel
theorem d_Y_measure_151 : decode b_Y_measure 151 = .ok (.istore_n 2, 1) := by decide +kernel
theorem d_Y_measure_152 : decode b_Y_measure 152 = .ok (.iload_n 2, 1) := by decide +kernel
theorem d_Y_measure_153 : decode b_Y_measure 153 = .ok (.bipush 8, 2) := by decide +kernel
theorem d_Y_measure_155 : decode b_Y_measure 155 = .ok (.if_icmp .ge 71, 3) := by decide +kernel
theorem d_Y_measure_158 : decode b_Y_measure 158 = .ok (.iconst 0, 1) := by decide +kernel
theorem d_Y_measure_159 : decode b_Y_measure 159 = .ok (.istore_n 3, 1) := by decide +kernel
theorem d_Y_measure_160 : decode b_Y_measure 160 = .ok (.iload_n 3, 1) := by decide +kernel
theorem d_Y_measure_161 : decode b_Y_measure 161 = .ok (.bipush 8, 2) := by decide +kernel
theorem d_Y_measure_163 : decode b_Y_measure 163 = .ok (.if_icmp .ge 57, 3) := by decide +kernel
theorem d_Y_measure_166 : decode b_Y_measure 166 = .ok (.aload_n 0, 1) := by decide +kernel
theorem d_Y_measure_167 : decode b_Y_measure 167 = .ok (.getfield 31, 3) := by decide +kernel
theorem d_Y_measure_170 : decode b_Y_measure 170 = .ok (.bipush 8, 2) := by decide +kernel
theorem d_Y_measure_172 : decode b_Y_measure 172 = .ok (.iload_n 2, 1) := by decide +kernel
theorem d_Y_measure_173 : decode b_Y_measure 173 = .ok (.imul, 1) := by decide +kernel
theorem d_Y_measure_174 : decode b_Y_measure 174 = .ok (.iload_n 3, 1) := by decide +kernel
theorem d_Y_measure_175 : decode b_Y_measure 175 = .ok (.iadd, 1) := by decide +kernel
theorem d_Y_measure_176 : decode b_Y_measure 176 = .ok (.aload_n 0, 1) := by decide +kernel
theorem d_Y_measure_177 : decode b_Y_measure 177 = .ok (.getfield 31, 3) := by decide +kernel
theorem d_Y_measure_180 : decode b_Y_measure 180 = .ok (.bipush 8, 2) := by decide +kernel
theorem d_Y_measure_182 : decode b_Y_measure 182 = .ok (.iload_n 2, 1) := by decide +kernel
theorem d_Y_measure_183 : decode b_Y_measure 183 = .ok (.imul, 1) := by decide +kernel
theorem d_Y_measure_184 : decode b_Y_measure 184 = .ok (.iload_n 3, 1) := by decide +kernel
theorem d_Y_measure_185 : decode b_Y_measure 185 = .ok (.iadd, 1) := by decide +kernel
theorem d_Y_measure_186 : decode b_Y_measure 186 = .ok (.iaload, 1) := by decide +kernel
theorem d_Y_measure_187 : decode b_Y_measure 187 = .ok (.aload_n 0, 1) := by decide +kernel
theorem d_Y_measure_188 : decode b_Y_measure 188 = .ok (.getfield 31, 3) := by decide +kernel
theorem d_Y_measure_191 : decode b_Y_measure 191 = .ok (.bipush 8, 2) := by decide +kernel
theorem d_Y_measure_193 : decode b_Y_measure 193 = .ok (.iload_n 2, 1) := by decide +kernel
theorem d_Y_measure_194 : decode b_Y_measure 194 = .ok (.imul, 1) := by decide +kernel
theorem d_Y_measure_195 : decode b_Y_measure 195 = .ok (.iload_n 1, 1) := by decide +kernel
theorem d_Y_measure_196 : decode b_Y_measure 196 = .ok (.iadd, 1) := by decide +kernel
theorem d_Y_measure_197 : decode b_Y_measure 197 = .ok (.iaload, 1) := by decide +kernel
theorem d_Y_measure_198 : decode b_Y_measure 198 = .ok (.aload_n 0, 1) := by decide +kernel
theorem d_Y_measure_199 : decode b_Y_measure 199 = .ok (.getfield 31, 3) := by decide +kernel
theorem d_Y_measure_202 : decode b_Y_measure 202 = .ok (.bipush 8, 2) := by decide +kernel
theorem d_Y_measure_204 : decode b_Y_measure 204 = .ok (.iload_n 1, 1) := by decide +kernel
theorem d_Y_measure_205 : decode b_Y_measure 205 = .ok (.imul, 1) := by decide +kernel
theorem d_Y_measure_206 : decode b_Y_measure 206 = .ok (.iload_n 3, 1) := by decide +kernel
theorem d_Y_measure_207 : decode b_Y_measure 207 = .ok (.iadd, 1) := by decide +kernel
theorem d_Y_measure_208 : decode b_Y_measure 208 = .ok (.iaload, 1) := by decide +kernel
theorem d_Y_measure_209 : decode b_Y_measure 209 = .ok (.iadd, 1) := by decide +kernel
theorem d_Y_measure_210 : decode b_Y_measure 210 = .ok (.invokestatic 155, 3) := by decide +kernel
theorem d_Y_measure_213 : decode b_Y_measure 213 = .ok (.iastore, 1) := by decide +kernel
theorem d_Y_measure_214 : decode b_Y_measure 214 = .ok (.iinc 3 1, 3) := by decide +kernel
theorem d_Y_measure_217 : decode b_Y_measure 217 = .ok (.goto (-57), 3) := by decide +kernel
theorem d_Y_measure_220 : decode b_Y_measure 220 = .ok (.iinc 2 1, 3) := by decide +kernel
theorem d_Y_measure_223 : decode b_Y_measure 223 = .ok (.goto (-71), 3) := by decide +kernel
theorem d_Y_measure_226 : decode b_Y_measure 226 = .ok (.iinc 1 1, 3) := by decide +kernel
theorem d_Y_measure_229 : decode b_Y_measure 229 = .ok (.goto (-85), 3) := by decide +kernel
theorem d_Y_measure_232 : decode b_Y_measure 232 = .ok (.return_, 1) := by decide +kernel
theorem d_Y_clear_0 : decode b_Y_clear 0 = .ok (.aload_n 0, 1) := by decide +kernel
theorem d_Y_clear_1 : decode b_Y_clear 1 = .ok (.iconst 0, 1) := by decide +kernel
theorem d_Y_clear_2 : decode b_Y_clear 2 = .ok (.putfield 117, 3) := by decide +kernel
theorem d_Y_clear_5 : decode b_Y_clear 5 = .ok (.aload_n 0, 1) := by decide +kernel
theorem d_Y_clear_6 : decode b_Y_clear 6 = .ok (.iconst 0, 1) := by decide +kernel
theorem d_Y_clear_7 : decode b_Y_clear 7 = .ok (.putfield 121, 3) := by decide +kernel
theorem d_Y_clear_10 : decode b_Y_clear 10 = .ok (.aload_n 0, 1) := by decide +kernel
theorem d_Y_clear_11 : decode b_Y_clear 11 = .ok (.iconst 0, 1) := by decide +kernel
theorem d_Y_clear_12 : decode b_Y_clear 12 = .ok (.putfield 124, 3) := by decide +kernel
theorem d_Y_clear_15 : decode b_Y_clear 15 = .ok (.aload_n 0, 1) := by decide +kernel
theorem d_Y_clear_16 : decode b_Y_clear 16 = .ok (.iconst 0, 1) := by decide +kernel
theorem d_Y_clear_17 : decode b_Y_clear 17 = .ok (.putfield 128, 3) := by decide +kernel
theorem d_Y_clear_20 : decode b_Y_clear 20 = .ok (.aload_n 0, 1) := by decide +kernel
theorem d_Y_clear_21 : decode b_Y_clear 21 = .ok (.iconst 0, 1) := by decide +kernel
theorem d_Y_clear_22 : decode b_Y_clear 22 = .ok (.putfield 131, 3) := by decide +kernel
theorem d_Y_clear_25 : decode b_Y_clear 25 = .ok (.aload_n 0, 1) := by decide +kernel
theorem d_Y_clear_26 : decode b_Y_clear 26 = .ok (.iconst 0, 1) := by decide +kernel
theorem d_Y_clear_27 : decode b_Y_clear 27 = .ok (.putfield 134, 3) := by decide +kernel
theorem d_Y_clear_30 : decode b_Y_clear 30 = .ok (.iconst 0, 1) := by decide +kernel
theorem d_Y_clear_31 : decode b_Y_clear 31 = .ok (.istore_n 1, 1) := by decide +kernel
theorem d_Y_clear_32 : decode b_Y_clear 32 = .ok (.iload_n 1, 1) := by decide +kernel
theorem d_Y_clear_33 : decode b_Y_clear 33 = .ok (.bipush 64, 2) := by decide +kernel
theorem d_Y_clear_35 : decode b_Y_clear 35 = .ok (.if_icmp .ge 16, 3) := by decide +kernel
theorem d_Y_clear_38 : decode b_Y_clear 38 = .ok (.aload_n 0, 1) := by decide +kernel
theorem d_Y_clear_39 : decode b_Y_clear 39 = .ok (.getfield 79, 3) := by decide +kernel
theorem d_Y_clear_42 : decode b_Y_clear 42 = .ok (.iload_n 1, 1) := by decide +kernel
theorem d_Y_clear_43 : decode b_Y_clear 43 = .ok (.iconst 0, 1) := by decide +kernel
theorem d_Y_clear_44 : decode b_Y_clear 44 = .ok (.iastore, 1) := by decide +kernel
theorem d_Y_clear_45 : decode b_Y_clear 45 = .ok (.iinc 1 1, 3) := by decide +kernel
theorem d_Y_clear_48 : decode b_Y_clear 48 = .ok (.goto (-16), 3) := by decide +kernel
theorem d_Y_clear_51 : decode b_Y_clear 51 = .ok (.aload_n 0, 1) := by decide +kernel
theorem d_Y_clear_52 : decode b_Y_clear 52 = .ok (.invokevirtual 137, 3) := by decide +kernel
theorem d_Y_clear_55 : decode b_Y_clear 55 = .ok (.return_, 1) := by decide +kernel
theorem d_Y_node_0 : decode b_Y_node 0 = .ok (.iload_n 0, 1) := by decide +kernel
theorem d_Y_node_1 : decode b_Y_node 1 = .ok (.ifCond .lt 13, 3) := by decide +kernel
theorem d_Y_node_4 : decode b_Y_node 4 = .ok (.iload_n 0, 1) := by decide +kernel
theorem d_Y_node_5 : decode b_Y_node 5 = .ok (.bipush 7, 2) := by decide +kernel
theorem d_Y_node_7 : decode b_Y_node 7 = .ok (.if_icmp .gt 7, 3) := by decide +kernel
theorem d_Y_node_10 : decode b_Y_node 10 = .ok (.iconst 1, 1) := by decide +kernel
theorem d_Y_node_11 : decode b_Y_node 11 = .ok (.goto 4, 3) := by decide +kernel
theorem d_Y_node_14 : decode b_Y_node 14 = .ok (.iconst 0, 1) := by decide +kernel
theorem d_Y_node_15 : decode b_Y_node 15 = .ok (.ireturn, 1) := by decide +kernel
theorem d_Y_within_0 : decode b_Y_within 0 = .ok (.iload_n 0, 1) := by decide +kernel
theorem d_Y_within_1 : decode b_Y_within 1 = .ok (.iload_n 1, 1) := by decide +kernel
theorem d_Y_within_2 : decode b_Y_within 2 = .ok (.if_icmp .lt 12, 3) := by decide +kernel
theorem d_Y_within_5 : decode b_Y_within 5 = .ok (.iload_n 0, 1) := by decide +kernel
theorem d_Y_within_6 : decode b_Y_within 6 = .ok (.iload_n 2, 1) := by decide +kernel
theorem d_Y_within_7 : decode b_Y_within 7 = .ok (.if_icmp .gt 7, 3) := by decide +kernel
theorem d_Y_within_10 : decode b_Y_within 10 = .ok (.iconst 1, 1) := by decide +kernel
theorem d_Y_within_11 : decode b_Y_within 11 = .ok (.goto 4, 3) := by decide +kernel
theorem d_Y_within_14 : decode b_Y_within 14 = .ok (.iconst 0, 1) := by decide +kernel
theorem d_Y_within_15 : decode b_Y_within 15 = .ok (.ireturn, 1) := by decide +kernel
theorem d_Y_link_0 : decode b_Y_link 0 = .ok (.aload_n 0, 1) := by decide +kernel
theorem d_Y_link_1 : decode b_Y_link 1 = .ok (.getfield 124, 3) := by decide +kernel
theorem d_Y_link_4 : decode b_Y_link 4 = .ok (.ifCond .ne 31, 3) := by decide +kernel
theorem d_Y_link_7 : decode b_Y_link 7 = .ok (.aload_n 0, 1) := by decide +kernel
theorem d_Y_link_8 : decode b_Y_link 8 = .ok (.getfield 117, 3) := by decide +kernel
theorem d_Y_link_11 : decode b_Y_link 11 = .ok (.bipush 12, 2) := by decide +kernel
theorem d_Y_link_13 : decode b_Y_link 13 = .ok (.if_icmp .eq 22, 3) := by decide +kernel
theorem d_Y_link_16 : decode b_Y_link 16 = .ok (.iload_n 1, 1) := by decide +kernel
theorem d_Y_link_17 : decode b_Y_link 17 = .ok (.invokestatic 140, 3) := by decide +kernel
theorem d_Y_link_20 : decode b_Y_link 20 = .ok (.ifCond .eq 15, 3) := by decide +kernel
theorem d_Y_link_23 : decode b_Y_link 23 = .ok (.iload_n 2, 1) := by decide +kernel
theorem d_Y_link_24 : decode b_Y_link 24 = .ok (.invokestatic 140, 3) := by decide +kernel
theorem d_Y_link_27 : decode b_Y_link 27 = .ok (.ifCond .eq 8, 3) := by decide +kernel
theorem d_Y_link_30 : decode b_Y_link 30 = .ok (.iload_n 1, 1) := by decide +kernel
theorem d_Y_link_31 : decode b_Y_link 31 = .ok (.iload_n 2, 1) := by decide +kernel
theorem d_Y_link_32 : decode b_Y_link 32 = .ok (.if_icmp .ne 5, 3) := by decide +kernel
theorem d_Y_link_35 : decode b_Y_link 35 = .ok (.iconst (-1), 1) := by decide +kernel
theorem d_Y_link_36 : decode b_Y_link 36 = .ok (.ireturn, 1) := by decide +kernel
theorem d_Y_link_37 : decode b_Y_link 37 = .ok (.iload_n 3, 1) := by decide +kernel
theorem d_Y_link_38 : decode b_Y_link 38 = .ok (.iconst 1, 1) := by decide +kernel
theorem d_Y_link_39 : decode b_Y_link 39 = .ok (.bipush 100, 2) := by decide +kernel
theorem d_Y_link_41 : decode b_Y_link 41 = .ok (.invokestatic 144, 3) := by decide +kernel
theorem d_Y_link_44 : decode b_Y_link 44 = .ok (.ifCond .eq 25, 3) := by decide +kernel
theorem d_Y_link_47 : decode b_Y_link 47 = .ok (.iload 4, 2) := by decide +kernel
theorem d_Y_link_49 : decode b_Y_link 49 = .ok (.iconst 1, 1) := by decide +kernel
theorem d_Y_link_50 : decode b_Y_link 50 = .ok (.bipush 16, 2) := by decide +kernel
theorem d_Y_link_52 : decode b_Y_link 52 = .ok (.invokestatic 144, 3) := by decide +kernel
theorem d_Y_link_55 : decode b_Y_link 55 = .ok (.ifCond .eq 14, 3) := by decide +kernel
theorem d_Y_link_58 : decode b_Y_link 58 = .ok (.iload 5, 2) := by decide +kernel
theorem d_Y_link_60 : decode b_Y_link 60 = .ok (.iconst 0, 1) := by decide +kernel
theorem d_Y_link_61 : decode b_Y_link 61 = .ok (.bipush 40, 2) := by decide +kernel
theorem d_Y_link_63 : decode b_Y_link 63 = .ok (.invokestatic 144, 3) := by decide +kernel
theorem d_Y_link_66 : decode b_Y_link 66 = .ok (.ifCond .ne 5, 3) := by decide +kernel
theorem d_Y_link_69 : decode b_Y_link 69 = .ok (.iconst (-1), 1) := by decide +kernel
theorem d_Y_link_70 : decode b_Y_link 70 = .ok (.ireturn, 1) := by decide +kernel
theorem d_Y_link_71 : decode b_Y_link 71 = .ok (.aload_n 0, 1) := by decide +kernel
theorem d_Y_link_72 : decode b_Y_link 72 = .ok (.getfield 7, 3) := by decide +kernel
theorem d_Y_link_75 : decode b_Y_link 75 = .ok (.aload_n 0, 1) := by decide +kernel
theorem d_Y_link_76 : decode b_Y_link 76 = .ok (.getfield 117, 3) := by decide +kernel
theorem d_Y_link_79 : decode b_Y_link 79 = .ok (.iload_n 1, 1) := by decide +kernel
theorem d_Y_link_80 : decode b_Y_link 80 = .ok (.iastore, 1) := by decide +kernel
theorem d_Y_link_81 : decode b_Y_link 81 = .ok (.aload_n 0, 1) := by decide +kernel
theorem d_Y_link_82 : decode b_Y_link 82 = .ok (.getfield 13, 3) := by decide +kernel
theorem d_Y_link_85 : decode b_Y_link 85 = .ok (.aload_n 0, 1) := by decide +kernel
theorem d_Y_link_86 : decode b_Y_link 86 = .ok (.getfield 117, 3) := by decide +kernel
theorem d_Y_link_89 : decode b_Y_link 89 = .ok (.iload_n 2, 1) := by decide +kernel
theorem d_Y_link_90 : decode b_Y_link 90 = .ok (.iastore, 1) := by decide +kernel
theorem d_Y_link_91 : decode b_Y_link 91 = .ok (.aload_n 0, 1) := by decide +kernel
theorem d_Y_link_92 : decode b_Y_link 92 = .ok (.getfield 16, 3) := by decide +kernel
theorem d_Y_link_95 : decode b_Y_link 95 = .ok (.aload_n 0, 1) := by decide +kernel
theorem d_Y_link_96 : decode b_Y_link 96 = .ok (.getfield 117, 3) := by decide +kernel
theorem d_Y_link_99 : decode b_Y_link 99 = .ok (.iload_n 3, 1) := by decide +kernel
theorem d_Y_link_100 : decode b_Y_link 100 = .ok (.iastore, 1) := by decide +kernel
theorem d_Y_link_101 : decode b_Y_link 101 = .ok (.aload_n 0, 1) := by decide +kernel
theorem d_Y_link_102 : decode b_Y_link 102 = .ok (.getfield 19, 3) := by decide +kernel
theorem d_Y_link_105 : decode b_Y_link 105 = .ok (.aload_n 0, 1) := by decide +kernel
theorem d_Y_link_106 : decode b_Y_link 106 = .ok (.getfield 117, 3) := by decide +kernel
theorem d_Y_link_109 : decode b_Y_link 109 = .ok (.iload 4, 2) := by decide +kernel
theorem d_Y_link_111 : decode b_Y_link 111 = .ok (.iastore, 1) := by decide +kernel
theorem d_Y_link_112 : decode b_Y_link 112 = .ok (.aload_n 0, 1) := by decide +kernel
theorem d_Y_link_113 : decode b_Y_link 113 = .ok (.getfield 22, 3) := by decide +kernel
theorem d_Y_link_116 : decode b_Y_link 116 = .ok (.aload_n 0, 1) := by decide +kernel
theorem d_Y_link_117 : decode b_Y_link 117 = .ok (.getfield 117, 3) := by decide +kernel
theorem d_Y_link_120 : decode b_Y_link 120 = .ok (.iload 5, 2) := by decide +kernel
theorem d_Y_link_122 : decode b_Y_link 122 = .ok (.iastore, 1) := by decide +kernel
theorem d_Y_link_123 : decode b_Y_link 123 = .ok (.iconst 2, 1) := by decide +kernel
theorem d_Y_link_124 : decode b_Y_link 124 = .ok (.aload_n 0, 1) := by decide +kernel
theorem d_Y_link_125 : decode b_Y_link 125 = .ok (.getfield 117, 3) := by decide +kernel
theorem d_Y_link_128 : decode b_Y_link 128 = .ok (.imul, 1) := by decide +kernel
theorem d_Y_link_129 : decode b_Y_link 129 = .ok (.istore 6, 2) := by decide +kernel
theorem d_Y_link_131 : decode b_Y_link 131 = .ok (.iload 6, 2) := by decide +kernel
theorem d_Y_link_133 : decode b_Y_link 133 = .ok (.iconst 2, 1) := by decide +kernel
theorem d_Y_link_134 : decode b_Y_link 134 = .ok (.aload_n 0, 1) := by decide +kernel
theorem d_Y_link_135 : decode b_Y_link 135 = .ok (.getfield 117, 3) := by decide +kernel
theorem d_Y_link_138 : decode b_Y_link 138 = .ok (.imul, 1) := by decide +kernel
theorem d_Y_link_139 : decode b_Y_link 139 = .ok (.iconst 1, 1) := by decide +kernel
theorem d_Y_link_140 : decode b_Y_link 140 = .ok (.iadd, 1) := by decide +kernel
theorem d_Y_link_141 : decode b_Y_link 141 = .ok (.if_icmp .gt 26, 3) := by decide +kernel
theorem d_Y_link_144 : decode b_Y_link 144 = .ok (.aload_n 0, 1) := by decide +kernel
theorem d_Y_link_145 : decode b_Y_link 145 = .ok (.getfield 25, 3) := by decide +kernel
theorem d_Y_link_148 : decode b_Y_link 148 = .ok (.iload 6, 2) := by decide +kernel
theorem d_Y_link_150 : decode b_Y_link 150 = .ok (.bipush 8, 2) := by decide +kernel
theorem d_Y_link_152 : decode b_Y_link 152 = .ok (.iastore, 1) := by decide +kernel
theorem d_Y_link_153 : decode b_Y_link 153 = .ok (.aload_n 0, 1) := by decide +kernel
theorem d_Y_link_154 : decode b_Y_link 154 = .ok (.getfield 28, 3) := by decide +kernel
theorem d_Y_link_157 : decode b_Y_link 157 = .ok (.iload 6, 2) := by decide +kernel
theorem d_Y_link_159 : decode b_Y_link 159 = .ok (.iconst 4, 1) := by decide +kernel
theorem d_Y_link_160 : decode b_Y_link 160 = .ok (.iastore, 1) := by decide +kernel
theorem d_Y_link_161 : decode b_Y_link 161 = .ok (.iinc 6 1, 3) := by decide +kernel
theorem d_Y_link_164 : decode b_Y_link 164 = .ok (.goto (-33), 3) := by decide +kernel
theorem d_Y_link_167 : decode b_Y_link 167 = .ok (.aload_n 0, 1) := by decide +kernel
theorem d_Y_link_168 : decode b_Y_link 168 = .ok (.dup, 1) := by decide +kernel
theorem d_Y_link_169 : decode b_Y_link 169 = .ok (.getfield 117, 3) := by decide +kernel
theorem d_Y_link_172 : decode b_Y_link 172 = .ok (.iconst 1, 1) := by decide +kernel
theorem d_Y_link_173 : decode b_Y_link 173 = .ok (.iadd, 1) := by decide +kernel
theorem d_Y_link_174 : decode b_Y_link 174 = .ok (.putfield 117, 3) := by decide +kernel
theorem d_Y_link_177 : decode b_Y_link 177 = .ok (.aload_n 0, 1) := by decide +kernel
theorem d_Y_link_178 : decode b_Y_link 178 = .ok (.invokevirtual 137, 3) := by decide +kernel
theorem d_Y_link_181 : decode b_Y_link 181 = .ok (.aload_n 0, 1) := by decide +kernel
theorem d_Y_link_182 : decode b_Y_link 182 = .ok (.getfield 117, 3) := by decide +kernel
theorem d_Y_link_185 : decode b_Y_link 185 = .ok (.iconst 1, 1) := by decide +kernel
theorem d_Y_link_186 : decode b_Y_link 186 = .ok (.isub, 1) := by decide +kernel
theorem d_Y_link_187 : decode b_Y_link 187 = .ok (.ireturn, 1) := by decide +kernel
theorem d_Y_isPort_0 : decode b_Y_isPort 0 = .ok (.iload_n 1, 1) := by decide +kernel
theorem d_Y_isPort_1 : decode b_Y_isPort 1 = .ok (.ifCond .lt 17, 3) := by decide +kernel
theorem d_Y_isPort_4 : decode b_Y_isPort 4 = .ok (.iload_n 1, 1) := by decide +kernel
theorem d_Y_isPort_5 : decode b_Y_isPort 5 = .ok (.iconst 2, 1) := by decide +kernel
theorem d_Y_isPort_6 : decode b_Y_isPort 6 = .ok (.aload_n 0, 1) := by decide +kernel
theorem d_Y_isPort_7 : decode b_Y_isPort 7 = .ok (.getfield 117, 3) := by decide +kernel
theorem d_Y_isPort_10 : decode b_Y_isPort 10 = .ok (.imul, 1) := by decide +kernel
theorem d_Y_isPort_11 : decode b_Y_isPort 11 = .ok (.if_icmp .ge 7, 3) := by decide +kernel
theorem d_Y_isPort_14 : decode b_Y_isPort 14 = .ok (.iconst 1, 1) := by decide +kernel
theorem d_Y_isPort_15 : decode b_Y_isPort 15 = .ok (.goto 4, 3) := by decide +kernel
theorem d_Y_isPort_18 : decode b_Y_isPort 18 = .ok (.iconst 0, 1) := by decide +kernel
theorem d_Y_isPort_19 : decode b_Y_isPort 19 = .ok (.ireturn, 1) := by decide +kernel
theorem d_Y_isFlow_0 : decode b_Y_isFlow 0 = .ok (.iload_n 1, 1) := by decide +kernel
theorem d_Y_isFlow_1 : decode b_Y_isFlow 1 = .ok (.ifCond .lt 15, 3) := by decide +kernel
theorem d_Y_isFlow_4 : decode b_Y_isFlow 4 = .ok (.iload_n 1, 1) := by decide +kernel
theorem d_Y_isFlow_5 : decode b_Y_isFlow 5 = .ok (.aload_n 0, 1) := by decide +kernel
theorem d_Y_isFlow_6 : decode b_Y_isFlow 6 = .ok (.getfield 121, 3) := by decide +kernel
theorem d_Y_isFlow_9 : decode b_Y_isFlow 9 = .ok (.if_icmp .ge 7, 3) := by decide +kernel
theorem d_Y_isFlow_12 : decode b_Y_isFlow 12 = .ok (.iconst 1, 1) := by decide +kernel
theorem d_Y_isFlow_13 : decode b_Y_isFlow 13 = .ok (.goto 4, 3) := by decide +kernel
theorem d_Y_isFlow_16 : decode b_Y_isFlow 16 = .ok (.iconst 0, 1) := by decide +kernel
theorem d_Y_isFlow_17 : decode b_Y_isFlow 17 = .ok (.ireturn, 1) := by decide +kernel
theorem d_Y_shape_0 : decode b_Y_shape 0 = .ok (.aload_n 0, 1) := by decide +kernel
theorem d_Y_shape_1 : decode b_Y_shape 1 = .ok (.getfield 124, 3) := by decide +kernel
theorem d_Y_shape_4 : decode b_Y_shape 4 = .ok (.ifCond .ne 31, 3) := by decide +kernel
theorem d_Y_shape_7 : decode b_Y_shape 7 = .ok (.aload_n 0, 1) := by decide +kernel
theorem d_Y_shape_8 : decode b_Y_shape 8 = .ok (.iload_n 1, 1) := by decide +kernel
theorem d_Y_shape_9 : decode b_Y_shape 9 = .ok (.invokevirtual 148, 3) := by decide +kernel
theorem d_Y_shape_12 : decode b_Y_shape 12 = .ok (.ifCond .eq 23, 3) := by decide +kernel
theorem d_Y_shape_15 : decode b_Y_shape 15 = .ok (.iload_n 2, 1) := by decide +kernel
theorem d_Y_shape_16 : decode b_Y_shape 16 = .ok (.iconst 1, 1) := by decide +kernel
theorem d_Y_shape_17 : decode b_Y_shape 17 = .ok (.bipush 16, 2) := by decide +kernel
theorem d_Y_shape_19 : decode b_Y_shape 19 = .ok (.invokestatic 144, 3) := by decide +kernel
theorem d_Y_shape_22 : decode b_Y_shape 22 = .ok (.ifCond .eq 13, 3) := by decide +kernel
theorem d_Y_shape_25 : decode b_Y_shape 25 = .ok (.iload_n 3, 1) := by decide +kernel
theorem d_Y_shape_26 : decode b_Y_shape 26 = .ok (.iconst 1, 1) := by decide +kernel
theorem d_Y_shape_27 : decode b_Y_shape 27 = .ok (.bipush 8, 2) := by decide +kernel
theorem d_Y_shape_29 : decode b_Y_shape 29 = .ok (.invokestatic 144, 3) := by decide +kernel
theorem d_Y_shape_32 : decode b_Y_shape 32 = .ok (.ifCond .ne 5, 3) := by decide +kernel
theorem d_Y_shape_35 : decode b_Y_shape 35 = .ok (.iconst 0, 1) := by decide +kernel
theorem d_Y_shape_36 : decode b_Y_shape 36 = .ok (.ireturn, 1) := by decide +kernel
theorem d_Y_shape_37 : decode b_Y_shape 37 = .ok (.aload_n 0, 1) := by decide +kernel
theorem d_Y_shape_38 : decode b_Y_shape 38 = .ok (.getfield 25, 3) := by decide +kernel
theorem d_Y_shape_41 : decode b_Y_shape 41 = .ok (.iload_n 1, 1) := by decide +kernel
theorem d_Y_shape_42 : decode b_Y_shape 42 = .ok (.iload_n 2, 1) := by decide +kernel
theorem d_Y_shape_43 : decode b_Y_shape 43 = .ok (.iastore, 1) := by decide +kernel
theorem d_Y_shape_44 : decode b_Y_shape 44 = .ok (.aload_n 0, 1) := by decide +kernel
theorem d_Y_shape_45 : decode b_Y_shape 45 = .ok (.getfield 28, 3) := by decide +kernel
theorem d_Y_shape_48 : decode b_Y_shape 48 = .ok (.iload_n 1, 1) := by decide +kernel
theorem d_Y_shape_49 : decode b_Y_shape 49 = .ok (.iload_n 3, 1) := by decide +kernel
theorem d_Y_shape_50 : decode b_Y_shape 50 = .ok (.iastore, 1) := by decide +kernel
theorem d_Y_shape_51 : decode b_Y_shape 51 = .ok (.iconst 1, 1) := by decide +kernel
theorem d_Y_shape_52 : decode b_Y_shape 52 = .ok (.ireturn, 1) := by decide +kernel
theorem d_Y_flow_0 : decode b_Y_flow 0 = .ok (.aload_n 0, 1) := by decide +kernel
theorem d_Y_flow_1 : decode b_Y_flow 1 = .ok (.getfield 124, 3) := by decide +kernel
theorem d_Y_flow_4 : decode b_Y_flow 4 = .ok (.ifCond .ne 52, 3) := by decide +kernel
theorem d_Y_flow_7 : decode b_Y_flow 7 = .ok (.aload_n 0, 1) := by decide +kernel
theorem d_Y_flow_8 : decode b_Y_flow 8 = .ok (.getfield 121, 3) := by decide +kernel
theorem d_Y_flow_11 : decode b_Y_flow 11 = .ok (.bipush 6, 2) := by decide +kernel
theorem d_Y_flow_13 : decode b_Y_flow 13 = .ok (.if_icmp .eq 43, 3) := by decide +kernel
theorem d_Y_flow_16 : decode b_Y_flow 16 = .ok (.iload_n 1, 1) := by decide +kernel
theorem d_Y_flow_17 : decode b_Y_flow 17 = .ok (.invokestatic 140, 3) := by decide +kernel
theorem d_Y_flow_20 : decode b_Y_flow 20 = .ok (.ifCond .eq 36, 3) := by decide +kernel
theorem d_Y_flow_23 : decode b_Y_flow 23 = .ok (.iload_n 2, 1) := by decide +kernel
theorem d_Y_flow_24 : decode b_Y_flow 24 = .ok (.invokestatic 140, 3) := by decide +kernel
theorem d_Y_flow_27 : decode b_Y_flow 27 = .ok (.ifCond .eq 29, 3) := by decide +kernel
theorem d_Y_flow_30 : decode b_Y_flow 30 = .ok (.iload_n 1, 1) := by decide +kernel
theorem d_Y_flow_31 : decode b_Y_flow 31 = .ok (.iload_n 2, 1) := by decide +kernel
theorem d_Y_flow_32 : decode b_Y_flow 32 = .ok (.if_icmp .eq 24, 3) := by decide +kernel
theorem d_Y_flow_35 : decode b_Y_flow 35 = .ok (.iload_n 3, 1) := by decide +kernel
theorem d_Y_flow_36 : decode b_Y_flow 36 = .ok (.iconst 1, 1) := by decide +kernel
theorem d_Y_flow_37 : decode b_Y_flow 37 = .ok (.bipush 100, 2) := by decide +kernel
theorem d_Y_flow_39 : decode b_Y_flow 39 = .ok (.invokestatic 144, 3) := by decide +kernel
theorem d_Y_flow_42 : decode b_Y_flow 42 = .ok (.ifCond .eq 14, 3) := by decide +kernel
theorem d_Y_flow_45 : decode b_Y_flow 45 = .ok (.iload 4, 2) := by decide +kernel
theorem d_Y_flow_47 : decode b_Y_flow 47 = .ok (.iconst 1, 1) := by decide +kernel
theorem d_Y_flow_48 : decode b_Y_flow 48 = .ok (.bipush 8, 2) := by decide +kernel
theorem d_Y_flow_50 : decode b_Y_flow 50 = .ok (.invokestatic 144, 3) := by decide +kernel
theorem d_Y_flow_53 : decode b_Y_flow 53 = .ok (.ifCond .ne 5, 3) := by decide +kernel
theorem d_Y_flow_56 : decode b_Y_flow 56 = .ok (.iconst (-1), 1) := by decide +kernel
theorem d_Y_flow_57 : decode b_Y_flow 57 = .ok (.ireturn, 1) := by decide +kernel
theorem d_Y_flow_58 : decode b_Y_flow 58 = .ok (.aload_n 0, 1) := by decide +kernel
theorem d_Y_flow_59 : decode b_Y_flow 59 = .ok (.getfield 34, 3) := by decide +kernel
theorem d_Y_flow_62 : decode b_Y_flow 62 = .ok (.aload_n 0, 1) := by decide +kernel
theorem d_Y_flow_63 : decode b_Y_flow 63 = .ok (.getfield 121, 3) := by decide +kernel
theorem d_Y_flow_66 : decode b_Y_flow 66 = .ok (.iload_n 1, 1) := by decide +kernel
theorem d_Y_flow_67 : decode b_Y_flow 67 = .ok (.iastore, 1) := by decide +kernel
theorem d_Y_flow_68 : decode b_Y_flow 68 = .ok (.aload_n 0, 1) := by decide +kernel
theorem d_Y_flow_69 : decode b_Y_flow 69 = .ok (.getfield 37, 3) := by decide +kernel
theorem d_Y_flow_72 : decode b_Y_flow 72 = .ok (.aload_n 0, 1) := by decide +kernel
theorem d_Y_flow_73 : decode b_Y_flow 73 = .ok (.getfield 121, 3) := by decide +kernel
theorem d_Y_flow_76 : decode b_Y_flow 76 = .ok (.iload_n 2, 1) := by decide +kernel
theorem d_Y_flow_77 : decode b_Y_flow 77 = .ok (.iastore, 1) := by decide +kernel
theorem d_Y_flow_78 : decode b_Y_flow 78 = .ok (.aload_n 0, 1) := by decide +kernel
theorem d_Y_flow_79 : decode b_Y_flow 79 = .ok (.getfield 40, 3) := by decide +kernel
theorem d_Y_flow_82 : decode b_Y_flow 82 = .ok (.aload_n 0, 1) := by decide +kernel
theorem d_Y_flow_83 : decode b_Y_flow 83 = .ok (.getfield 121, 3) := by decide +kernel
theorem d_Y_flow_86 : decode b_Y_flow 86 = .ok (.iload_n 3, 1) := by decide +kernel
theorem d_Y_flow_87 : decode b_Y_flow 87 = .ok (.iastore, 1) := by decide +kernel
theorem d_Y_flow_88 : decode b_Y_flow 88 = .ok (.aload_n 0, 1) := by decide +kernel
theorem d_Y_flow_89 : decode b_Y_flow 89 = .ok (.getfield 43, 3) := by decide +kernel
theorem d_Y_flow_92 : decode b_Y_flow 92 = .ok (.aload_n 0, 1) := by decide +kernel
theorem d_Y_flow_93 : decode b_Y_flow 93 = .ok (.getfield 121, 3) := by decide +kernel
theorem d_Y_flow_96 : decode b_Y_flow 96 = .ok (.iload 4, 2) := by decide +kernel
theorem d_Y_flow_98 : decode b_Y_flow 98 = .ok (.iastore, 1) := by decide +kernel
theorem d_Y_flow_99 : decode b_Y_flow 99 = .ok (.aload_n 0, 1) := by decide +kernel
theorem d_Y_flow_100 : decode b_Y_flow 100 = .ok (.getfield 46, 3) := by decide +kernel
theorem d_Y_flow_103 : decode b_Y_flow 103 = .ok (.aload_n 0, 1) := by decide +kernel
theorem d_Y_flow_104 : decode b_Y_flow 104 = .ok (.getfield 121, 3) := by decide +kernel
theorem d_Y_flow_107 : decode b_Y_flow 107 = .ok (.iconst 4, 1) := by decide +kernel
theorem d_Y_flow_108 : decode b_Y_flow 108 = .ok (.iastore, 1) := by decide +kernel
theorem d_Y_flow_109 : decode b_Y_flow 109 = .ok (.aload_n 0, 1) := by decide +kernel
theorem d_Y_flow_110 : decode b_Y_flow 110 = .ok (.getfield 49, 3) := by decide +kernel
theorem d_Y_flow_113 : decode b_Y_flow 113 = .ok (.aload_n 0, 1) := by decide +kernel
theorem d_Y_flow_114 : decode b_Y_flow 114 = .ok (.getfield 121, 3) := by decide +kernel
theorem d_Y_flow_117 : decode b_Y_flow 117 = .ok (.bipush 100, 2) := by decide +kernel
theorem d_Y_flow_119 : decode b_Y_flow 119 = .ok (.iastore, 1) := by decide +kernel
theorem d_Y_flow_120 : decode b_Y_flow 120 = .ok (.aload_n 0, 1) := by decide +kernel
theorem d_Y_flow_121 : decode b_Y_flow 121 = .ok (.getfield 52, 3) := by decide +kernel
theorem d_Y_flow_124 : decode b_Y_flow 124 = .ok (.aload_n 0, 1) := by decide +kernel
theorem d_Y_flow_125 : decode b_Y_flow 125 = .ok (.getfield 121, 3) := by decide +kernel
theorem d_Y_flow_128 : decode b_Y_flow 128 = .ok (.iconst 0, 1) := by decide +kernel
theorem d_Y_flow_129 : decode b_Y_flow 129 = .ok (.iastore, 1) := by decide +kernel
theorem d_Y_flow_130 : decode b_Y_flow 130 = .ok (.aload_n 0, 1) := by decide +kernel
theorem d_Y_flow_131 : decode b_Y_flow 131 = .ok (.getfield 55, 3) := by decide +kernel
theorem d_Y_flow_134 : decode b_Y_flow 134 = .ok (.aload_n 0, 1) := by decide +kernel
theorem d_Y_flow_135 : decode b_Y_flow 135 = .ok (.getfield 121, 3) := by decide +kernel
theorem d_Y_flow_138 : decode b_Y_flow 138 = .ok (.iconst 0, 1) := by decide +kernel
theorem d_Y_flow_139 : decode b_Y_flow 139 = .ok (.iastore, 1) := by decide +kernel
theorem d_Y_flow_140 : decode b_Y_flow 140 = .ok (.aload_n 0, 1) := by decide +kernel
theorem d_Y_flow_141 : decode b_Y_flow 141 = .ok (.getfield 58, 3) := by decide +kernel
theorem d_Y_flow_144 : decode b_Y_flow 144 = .ok (.aload_n 0, 1) := by decide +kernel
theorem d_Y_flow_145 : decode b_Y_flow 145 = .ok (.getfield 121, 3) := by decide +kernel
theorem d_Y_flow_148 : decode b_Y_flow 148 = .ok (.iconst 0, 1) := by decide +kernel
theorem d_Y_flow_149 : decode b_Y_flow 149 = .ok (.iastore, 1) := by decide +kernel
theorem d_Y_flow_150 : decode b_Y_flow 150 = .ok (.aload_n 0, 1) := by decide +kernel
theorem d_Y_flow_151 : decode b_Y_flow 151 = .ok (.getfield 61, 3) := by decide +kernel
theorem d_Y_flow_154 : decode b_Y_flow 154 = .ok (.aload_n 0, 1) := by decide +kernel
theorem d_Y_flow_155 : decode b_Y_flow 155 = .ok (.getfield 121, 3) := by decide +kernel
theorem d_Y_flow_158 : decode b_Y_flow 158 = .ok (.iconst 0, 1) := by decide +kernel
theorem d_Y_flow_159 : decode b_Y_flow 159 = .ok (.iastore, 1) := by decide +kernel
theorem d_Y_flow_160 : decode b_Y_flow 160 = .ok (.aload_n 0, 1) := by decide +kernel
theorem d_Y_flow_161 : decode b_Y_flow 161 = .ok (.getfield 64, 3) := by decide +kernel
theorem d_Y_flow_164 : decode b_Y_flow 164 = .ok (.aload_n 0, 1) := by decide +kernel
theorem d_Y_flow_165 : decode b_Y_flow 165 = .ok (.getfield 121, 3) := by decide +kernel
theorem d_Y_flow_168 : decode b_Y_flow 168 = .ok (.iconst (-1), 1) := by decide +kernel
theorem d_Y_flow_169 : decode b_Y_flow 169 = .ok (.iastore, 1) := by decide +kernel
theorem d_Y_flow_170 : decode b_Y_flow 170 = .ok (.aload_n 0, 1) := by decide +kernel
theorem d_Y_flow_171 : decode b_Y_flow 171 = .ok (.getfield 70, 3) := by decide +kernel
theorem d_Y_flow_174 : decode b_Y_flow 174 = .ok (.aload_n 0, 1) := by decide +kernel
theorem d_Y_flow_175 : decode b_Y_flow 175 = .ok (.getfield 121, 3) := by decide +kernel
theorem d_Y_flow_178 : decode b_Y_flow 178 = .ok (.iconst (-1), 1) := by decide +kernel
theorem d_Y_flow_179 : decode b_Y_flow 179 = .ok (.iastore, 1) := by decide +kernel
theorem d_Y_flow_180 : decode b_Y_flow 180 = .ok (.iconst 0, 1) := by decide +kernel
theorem d_Y_flow_181 : decode b_Y_flow 181 = .ok (.istore 5, 2) := by decide +kernel
theorem d_Y_flow_183 : decode b_Y_flow 183 = .ok (.iload 5, 2) := by decide +kernel
theorem d_Y_flow_185 : decode b_Y_flow 185 = .ok (.iconst 4, 1) := by decide +kernel
theorem d_Y_flow_186 : decode b_Y_flow 186 = .ok (.if_icmp .ge 24, 3) := by decide +kernel
theorem d_Y_flow_189 : decode b_Y_flow 189 = .ok (.aload_n 0, 1) := by decide +kernel
theorem d_Y_flow_190 : decode b_Y_flow 190 = .ok (.getfield 76, 3) := by decide +kernel
theorem d_Y_flow_193 : decode b_Y_flow 193 = .ok (.iconst 4, 1) := by decide +kernel
theorem d_Y_flow_194 : decode b_Y_flow 194 = .ok (.aload_n 0, 1) := by decide +kernel
theorem d_Y_flow_195 : decode b_Y_flow 195 = .ok (.getfield 121, 3) := by decide +kernel
theorem d_Y_flow_198 : decode b_Y_flow 198 = .ok (.imul, 1) := by decide +kernel
theorem d_Y_flow_199 : decode b_Y_flow 199 = .ok (.iload 5, 2) := by decide +kernel
theorem d_Y_flow_201 : decode b_Y_flow 201 = .ok (.iadd, 1) := by decide +kernel
theorem d_Y_flow_202 : decode b_Y_flow 202 = .ok (.iconst 0, 1) := by decide +kernel
theorem d_Y_flow_203 : decode b_Y_flow 203 = .ok (.iastore, 1) := by decide +kernel
theorem d_Y_flow_204 : decode b_Y_flow 204 = .ok (.iinc 5 1, 3) := by decide +kernel
theorem d_Y_flow_207 : decode b_Y_flow 207 = .ok (.goto (-24), 3) := by decide +kernel
theorem d_Y_flow_210 : decode b_Y_flow 210 = .ok (.aload_n 0, 1) := by decide +kernel
theorem d_Y_flow_211 : decode b_Y_flow 211 = .ok (.dup, 1) := by decide +kernel
theorem d_Y_flow_212 : decode b_Y_flow 212 = .ok (.getfield 121, 3) := by decide +kernel
theorem d_Y_flow_215 : decode b_Y_flow 215 = .ok (.iconst 1, 1) := by decide +kernel
theorem d_Y_flow_216 : decode b_Y_flow 216 = .ok (.iadd, 1) := by decide +kernel
theorem d_Y_flow_217 : decode b_Y_flow 217 = .ok (.putfield 121, 3) := by decide +kernel
theorem d_Y_flow_220 : decode b_Y_flow 220 = .ok (.aload_n 0, 1) := by decide +kernel
theorem d_Y_flow_221 : decode b_Y_flow 221 = .ok (.getfield 121, 3) := by decide +kernel
theorem d_Y_flow_224 : decode b_Y_flow 224 = .ok (.iconst 1, 1) := by decide +kernel
theorem d_Y_flow_225 : decode b_Y_flow 225 = .ok (.isub, 1) := by decide +kernel
theorem d_Y_flow_226 : decode b_Y_flow 226 = .ok (.ireturn, 1) := by decide +kernel
theorem d_Y_tune_0 : decode b_Y_tune 0 = .ok (.aload_n 0, 1) := by decide +kernel
theorem d_Y_tune_1 : decode b_Y_tune 1 = .ok (.getfield 124, 3) := by decide +kernel
theorem d_Y_tune_4 : decode b_Y_tune 4 = .ok (.ifCond .ne 44, 3) := by decide +kernel
theorem d_Y_tune_7 : decode b_Y_tune 7 = .ok (.aload_n 0, 1) := by decide +kernel
theorem d_Y_tune_8 : decode b_Y_tune 8 = .ok (.iload_n 1, 1) := by decide +kernel
theorem d_Y_tune_9 : decode b_Y_tune 9 = .ok (.invokevirtual 151, 3) := by decide +kernel
theorem d_Y_tune_12 : decode b_Y_tune 12 = .ok (.ifCond .eq 36, 3) := by decide +kernel
theorem d_Y_tune_15 : decode b_Y_tune 15 = .ok (.iload_n 2, 1) := by decide +kernel
theorem d_Y_tune_16 : decode b_Y_tune 16 = .ok (.iconst 1, 1) := by decide +kernel
theorem d_Y_tune_17 : decode b_Y_tune 17 = .ok (.bipush 8, 2) := by decide +kernel
theorem d_Y_tune_19 : decode b_Y_tune 19 = .ok (.invokestatic 144, 3) := by decide +kernel
theorem d_Y_tune_22 : decode b_Y_tune 22 = .ok (.ifCond .eq 26, 3) := by decide +kernel
theorem d_Y_tune_25 : decode b_Y_tune 25 = .ok (.iload_n 3, 1) := by decide +kernel
theorem d_Y_tune_26 : decode b_Y_tune 26 = .ok (.iconst 1, 1) := by decide +kernel
theorem d_Y_tune_27 : decode b_Y_tune 27 = .ok (.sipush 200, 3) := by decide +kernel
theorem d_Y_tune_30 : decode b_Y_tune 30 = .ok (.invokestatic 144, 3) := by decide +kernel
theorem d_Y_tune_33 : decode b_Y_tune 33 = .ok (.ifCond .eq 15, 3) := by decide +kernel
theorem d_Y_tune_36 : decode b_Y_tune 36 = .ok (.iload 4, 2) := by decide +kernel
theorem d_Y_tune_38 : decode b_Y_tune 38 = .ok (.iconst 0, 1) := by decide +kernel
theorem d_Y_tune_39 : decode b_Y_tune 39 = .ok (.sipush 1000, 3) := by decide +kernel
theorem d_Y_tune_42 : decode b_Y_tune 42 = .ok (.invokestatic 144, 3) := by decide +kernel
theorem d_Y_tune_45 : decode b_Y_tune 45 = .ok (.ifCond .ne 5, 3) := by decide +kernel
theorem d_Y_tune_48 : decode b_Y_tune 48 = .ok (.iconst 0, 1) := by decide +kernel
theorem d_Y_tune_49 : decode b_Y_tune 49 = .ok (.ireturn, 1) := by decide +kernel
theorem d_Y_tune_50 : decode b_Y_tune 50 = .ok (.aload_n 0, 1) := by decide +kernel
theorem d_Y_tune_51 : decode b_Y_tune 51 = .ok (.getfield 46, 3) := by decide +kernel
theorem d_Y_tune_54 : decode b_Y_tune 54 = .ok (.iload_n 1, 1) := by decide +kernel
theorem d_Y_tune_55 : decode b_Y_tune 55 = .ok (.iload_n 2, 1) := by decide +kernel
theorem d_Y_tune_56 : decode b_Y_tune 56 = .ok (.iastore, 1) := by decide +kernel
theorem d_Y_tune_57 : decode b_Y_tune 57 = .ok (.aload_n 0, 1) := by decide +kernel
theorem d_Y_tune_58 : decode b_Y_tune 58 = .ok (.getfield 49, 3) := by decide +kernel
theorem d_Y_tune_61 : decode b_Y_tune 61 = .ok (.iload_n 1, 1) := by decide +kernel
theorem d_Y_tune_62 : decode b_Y_tune 62 = .ok (.iload_n 3, 1) := by decide +kernel
theorem d_Y_tune_63 : decode b_Y_tune 63 = .ok (.iastore, 1) := by decide +kernel
theorem d_Y_tune_64 : decode b_Y_tune 64 = .ok (.aload_n 0, 1) := by decide +kernel
theorem d_Y_tune_65 : decode b_Y_tune 65 = .ok (.getfield 52, 3) := by decide +kernel
theorem d_Y_tune_68 : decode b_Y_tune 68 = .ok (.iload_n 1, 1) := by decide +kernel
theorem d_Y_tune_69 : decode b_Y_tune 69 = .ok (.iload 4, 2) := by decide +kernel
theorem d_Y_tune_71 : decode b_Y_tune 71 = .ok (.iastore, 1) := by decide +kernel
theorem d_Y_tune_72 : decode b_Y_tune 72 = .ok (.iconst 1, 1) := by decide +kernel
theorem d_Y_tune_73 : decode b_Y_tune 73 = .ok (.ireturn, 1) := by decide +kernel
theorem d_Y_distance_0 : decode b_Y_distance 0 = .ok (.iload_n 1, 1) := by decide +kernel
theorem d_Y_distance_1 : decode b_Y_distance 1 = .ok (.invokestatic 140, 3) := by decide +kernel
theorem d_Y_distance_4 : decode b_Y_distance 4 = .ok (.ifCond .eq 26, 3) := by decide +kernel
theorem d_Y_distance_7 : decode b_Y_distance 7 = .ok (.iload_n 2, 1) := by decide +kernel
theorem d_Y_distance_8 : decode b_Y_distance 8 = .ok (.invokestatic 140, 3) := by decide +kernel
theorem d_Y_distance_11 : decode b_Y_distance 11 = .ok (.ifCond .eq 19, 3) := by decide +kernel
theorem d_Y_distance_14 : decode b_Y_distance 14 = .ok (.aload_n 0, 1) := by decide +kernel
theorem d_Y_distance_15 : decode b_Y_distance 15 = .ok (.getfield 31, 3) := by decide +kernel
theorem d_Y_distance_18 : decode b_Y_distance 18 = .ok (.bipush 8, 2) := by decide +kernel
theorem d_Y_distance_20 : decode b_Y_distance 20 = .ok (.iload_n 1, 1) := by decide +kernel
theorem d_Y_distance_21 : decode b_Y_distance 21 = .ok (.imul, 1) := by decide +kernel
theorem d_Y_distance_22 : decode b_Y_distance 22 = .ok (.iload_n 2, 1) := by decide +kernel
theorem d_Y_distance_23 : decode b_Y_distance 23 = .ok (.iadd, 1) := by decide +kernel
theorem d_Y_distance_24 : decode b_Y_distance 24 = .ok (.iaload, 1) := by decide +kernel
theorem d_Y_distance_25 : decode b_Y_distance 25 = .ok (.ldc 154, 2) := by decide +kernel
theorem d_Y_distance_27 : decode b_Y_distance 27 = .ok (.if_icmp .lt 7, 3) := by decide +kernel
theorem d_Y_distance_30 : decode b_Y_distance 30 = .ok (.iconst (-1), 1) := by decide +kernel
theorem d_Y_distance_31 : decode b_Y_distance 31 = .ok (.goto 14, 3) := by decide +kernel
theorem d_Y_distance_34 : decode b_Y_distance 34 = .ok (.aload_n 0, 1) := by decide +kernel
theorem d_Y_distance_35 : decode b_Y_distance 35 = .ok (.getfield 31, 3) := by decide +kernel
theorem d_Y_distance_38 : decode b_Y_distance 38 = .ok (.bipush 8, 2) := by decide +kernel
theorem d_Y_distance_40 : decode b_Y_distance 40 = .ok (.iload_n 1, 1) := by decide +kernel
theorem d_Y_distance_41 : decode b_Y_distance 41 = .ok (.imul, 1) := by decide +kernel
theorem d_Y_distance_42 : decode b_Y_distance 42 = .ok (.iload_n 2, 1) := by decide +kernel
theorem d_Y_distance_43 : decode b_Y_distance 43 = .ok (.iadd, 1) := by decide +kernel
theorem d_Y_distance_44 : decode b_Y_distance 44 = .ok (.iaload, 1) := by decide +kernel
theorem d_Y_distance_45 : decode b_Y_distance 45 = .ok (.ireturn, 1) := by decide +kernel
theorem d_Y_at_0 : decode b_Y_at 0 = .ok (.iload_n 1, 1) := by decide +kernel
theorem d_Y_at_1 : decode b_Y_at 1 = .ok (.iconst 2, 1) := by decide +kernel
theorem d_Y_at_2 : decode b_Y_at 2 = .ok (.irem, 1) := by decide +kernel
theorem d_Y_at_3 : decode b_Y_at 3 = .ok (.ifCond .ne 14, 3) := by decide +kernel
theorem d_Y_at_6 : decode b_Y_at 6 = .ok (.aload_n 0, 1) := by decide +kernel
theorem d_Y_at_7 : decode b_Y_at 7 = .ok (.getfield 7, 3) := by decide +kernel
theorem d_Y_at_10 : decode b_Y_at 10 = .ok (.iload_n 1, 1) := by decide +kernel
theorem d_Y_at_11 : decode b_Y_at 11 = .ok (.iconst 2, 1) := by decide +kernel
theorem d_Y_at_12 : decode b_Y_at 12 = .ok (.idiv, 1) := by decide +kernel
theorem d_Y_at_13 : decode b_Y_at 13 = .ok (.iaload, 1) := by decide +kernel
theorem d_Y_at_14 : decode b_Y_at 14 = .ok (.goto 11, 3) := by decide +kernel
theorem d_Y_at_17 : decode b_Y_at 17 = .ok (.aload_n 0, 1) := by decide +kernel
theorem d_Y_at_18 : decode b_Y_at 18 = .ok (.getfield 13, 3) := by decide +kernel
theorem d_Y_at_21 : decode b_Y_at 21 = .ok (.iload_n 1, 1) := by decide +kernel
theorem d_Y_at_22 : decode b_Y_at 22 = .ok (.iconst 2, 1) := by decide +kernel
theorem d_Y_at_23 : decode b_Y_at 23 = .ok (.idiv, 1) := by decide +kernel
theorem d_Y_at_24 : decode b_Y_at 24 = .ok (.iaload, 1) := by decide +kernel
theorem d_Y_at_25 : decode b_Y_at 25 = .ok (.ireturn, 1) := by decide +kernel
theorem d_Y_leads_0 : decode b_Y_leads 0 = .ok (.iload_n 1, 1) := by decide +kernel
theorem d_Y_leads_1 : decode b_Y_leads 1 = .ok (.iconst 2, 1) := by decide +kernel
theorem d_Y_leads_2 : decode b_Y_leads 2 = .ok (.irem, 1) := by decide +kernel
theorem d_Y_leads_3 : decode b_Y_leads 3 = .ok (.ifCond .ne 14, 3) := by decide +kernel
theorem d_Y_leads_6 : decode b_Y_leads 6 = .ok (.aload_n 0, 1) := by decide +kernel
theorem d_Y_leads_7 : decode b_Y_leads 7 = .ok (.getfield 13, 3) := by decide +kernel
theorem d_Y_leads_10 : decode b_Y_leads 10 = .ok (.iload_n 1, 1) := by decide +kernel
theorem d_Y_leads_11 : decode b_Y_leads 11 = .ok (.iconst 2, 1) := by decide +kernel
theorem d_Y_leads_12 : decode b_Y_leads 12 = .ok (.idiv, 1) := by decide +kernel
theorem d_Y_leads_13 : decode b_Y_leads 13 = .ok (.iaload, 1) := by decide +kernel
theorem d_Y_leads_14 : decode b_Y_leads 14 = .ok (.goto 11, 3) := by decide +kernel
theorem d_Y_leads_17 : decode b_Y_leads 17 = .ok (.aload_n 0, 1) := by decide +kernel
theorem d_Y_leads_18 : decode b_Y_leads 18 = .ok (.getfield 7, 3) := by decide +kernel
theorem d_Y_leads_21 : decode b_Y_leads 21 = .ok (.iload_n 1, 1) := by decide +kernel
theorem d_Y_leads_22 : decode b_Y_leads 22 = .ok (.iconst 2, 1) := by decide +kernel
theorem d_Y_leads_23 : decode b_Y_leads 23 = .ok (.idiv, 1) := by decide +kernel
theorem d_Y_leads_24 : decode b_Y_leads 24 = .ok (.iaload, 1) := by decide +kernel
theorem d_Y_leads_25 : decode b_Y_leads 25 = .ok (.ireturn, 1) := by decide +kernel
theorem d_Y_way_0 : decode b_Y_way 0 = .ok (.iload_n 1, 1) := by decide +kernel
theorem d_Y_way_1 : decode b_Y_way 1 = .ok (.iload_n 2, 1) := by decide +kernel
theorem d_Y_way_2 : decode b_Y_way 2 = .ok (.if_icmp .eq 13, 3) := by decide +kernel
theorem d_Y_way_5 : decode b_Y_way 5 = .ok (.aload_n 0, 1) := by decide +kernel
theorem d_Y_way_6 : decode b_Y_way 6 = .ok (.iload_n 1, 1) := by decide +kernel
theorem d_Y_way_7 : decode b_Y_way 7 = .ok (.iload_n 2, 1) := by decide +kernel
theorem d_Y_way_8 : decode b_Y_way 8 = .ok (.invokevirtual 159, 3) := by decide +kernel
theorem d_Y_way_11 : decode b_Y_way 11 = .ok (.iconst (-1), 1) := by decide +kernel
theorem d_Y_way_12 : decode b_Y_way 12 = .ok (.if_icmp .ne 5, 3) := by decide +kernel
theorem d_Y_way_15 : decode b_Y_way 15 = .ok (.iconst (-1), 1) := by decide +kernel
theorem d_Y_way_16 : decode b_Y_way 16 = .ok (.ireturn, 1) := by decide +kernel
theorem d_Y_way_17 : decode b_Y_way 17 = .ok (.iconst 0, 1) := by decide +kernel
theorem d_Y_way_18 : decode b_Y_way 18 = .ok (.istore_n 3, 1) := by decide +kernel
theorem d_Y_way_19 : decode b_Y_way 19 = .ok (.iload_n 3, 1) := by decide +kernel
theorem d_Y_way_20 : decode b_Y_way 20 = .ok (.iconst 2, 1) := by decide +kernel
theorem d_Y_way_21 : decode b_Y_way 21 = .ok (.aload_n 0, 1) := by decide +kernel
theorem d_Y_way_22 : decode b_Y_way 22 = .ok (.getfield 117, 3) := by decide +kernel
theorem d_Y_way_25 : decode b_Y_way 25 = .ok (.imul, 1) := by decide +kernel
theorem d_Y_way_26 : decode b_Y_way 26 = .ok (.if_icmp .ge 58, 3) := by decide +kernel
theorem d_Y_way_29 : decode b_Y_way 29 = .ok (.aload_n 0, 1) := by decide +kernel
theorem d_Y_way_30 : decode b_Y_way 30 = .ok (.iload_n 3, 1) := by decide +kernel
theorem d_Y_way_31 : decode b_Y_way 31 = .ok (.invokevirtual 162, 3) := by decide +kernel
theorem d_Y_way_34 : decode b_Y_way 34 = .ok (.iload_n 1, 1) := by decide +kernel
theorem d_Y_way_35 : decode b_Y_way 35 = .ok (.if_icmp .ne 43, 3) := by decide +kernel
theorem d_Y_way_38 : decode b_Y_way 38 = .ok (.aload_n 0, 1) := by decide +kernel
theorem d_Y_way_39 : decode b_Y_way 39 = .ok (.getfield 16, 3) := by decide +kernel
theorem d_Y_way_42 : decode b_Y_way 42 = .ok (.iload_n 3, 1) := by decide +kernel
theorem d_Y_way_43 : decode b_Y_way 43 = .ok (.iconst 2, 1) := by decide +kernel
theorem d_Y_way_44 : decode b_Y_way 44 = .ok (.idiv, 1) := by decide +kernel
theorem d_Y_way_45 : decode b_Y_way 45 = .ok (.iaload, 1) := by decide +kernel
theorem d_Y_way_46 : decode b_Y_way 46 = .ok (.aload_n 0, 1) := by decide +kernel
theorem d_Y_way_47 : decode b_Y_way 47 = .ok (.getfield 31, 3) := by decide +kernel
theorem d_Y_way_50 : decode b_Y_way 50 = .ok (.bipush 8, 2) := by decide +kernel
theorem d_Y_way_52 : decode b_Y_way 52 = .ok (.aload_n 0, 1) := by decide +kernel
theorem d_Y_way_53 : decode b_Y_way 53 = .ok (.iload_n 3, 1) := by decide +kernel
theorem d_Y_way_54 : decode b_Y_way 54 = .ok (.invokevirtual 166, 3) := by decide +kernel
theorem d_Y_way_57 : decode b_Y_way 57 = .ok (.imul, 1) := by decide +kernel
theorem d_Y_way_58 : decode b_Y_way 58 = .ok (.iload_n 2, 1) := by decide +kernel
theorem d_Y_way_59 : decode b_Y_way 59 = .ok (.iadd, 1) := by decide +kernel
theorem d_Y_way_60 : decode b_Y_way 60 = .ok (.iaload, 1) := by decide +kernel
theorem d_Y_way_61 : decode b_Y_way 61 = .ok (.iadd, 1) := by decide +kernel
theorem d_Y_way_62 : decode b_Y_way 62 = .ok (.aload_n 0, 1) := by decide +kernel
theorem d_Y_way_63 : decode b_Y_way 63 = .ok (.getfield 31, 3) := by decide +kernel
theorem d_Y_way_66 : decode b_Y_way 66 = .ok (.bipush 8, 2) := by decide +kernel
theorem d_Y_way_68 : decode b_Y_way 68 = .ok (.iload_n 1, 1) := by decide +kernel
theorem d_Y_way_69 : decode b_Y_way 69 = .ok (.imul, 1) := by decide +kernel
theorem d_Y_way_70 : decode b_Y_way 70 = .ok (.iload_n 2, 1) := by decide +kernel
theorem d_Y_way_71 : decode b_Y_way 71 = .ok (.iadd, 1) := by decide +kernel
theorem d_Y_way_72 : decode b_Y_way 72 = .ok (.iaload, 1) := by decide +kernel
theorem d_Y_way_73 : decode b_Y_way 73 = .ok (.if_icmp .ne 5, 3) := by decide +kernel
theorem d_Y_way_76 : decode b_Y_way 76 = .ok (.iload_n 3, 1) := by decide +kernel
theorem d_Y_way_77 : decode b_Y_way 77 = .ok (.ireturn, 1) := by decide +kernel
theorem d_Y_way_78 : decode b_Y_way 78 = .ok (.iinc 3 1, 3) := by decide +kernel
theorem d_Y_way_81 : decode b_Y_way 81 = .ok (.goto (-62), 3) := by decide +kernel
theorem d_Y_way_84 : decode b_Y_way 84 = .ok (.iconst (-1), 1) := by decide +kernel
theorem d_Y_way_85 : decode b_Y_way 85 = .ok (.ireturn, 1) := by decide +kernel
theorem d_Y_sizeOf_0 : decode b_Y_sizeOf 0 = .ok (.aload_n 0, 1) := by decide +kernel
theorem d_Y_sizeOf_1 : decode b_Y_sizeOf 1 = .ok (.getfield 88, 3) := by decide +kernel
theorem d_Y_sizeOf_4 : decode b_Y_sizeOf 4 = .ok (.iload_n 1, 1) := by decide +kernel
theorem d_Y_sizeOf_5 : decode b_Y_sizeOf 5 = .ok (.baload, 1) := by decide +kernel
theorem d_Y_sizeOf_6 : decode b_Y_sizeOf 6 = .ok (.ifCond .eq 7, 3) := by decide +kernel
theorem d_Y_sizeOf_9 : decode b_Y_sizeOf 9 = .ok (.iconst 1, 1) := by decide +kernel
theorem d_Y_sizeOf_10 : decode b_Y_sizeOf 10 = .ok (.goto 14, 3) := by decide +kernel
theorem d_Y_sizeOf_13 : decode b_Y_sizeOf 13 = .ok (.aload_n 0, 1) := by decide +kernel
theorem d_Y_sizeOf_14 : decode b_Y_sizeOf 14 = .ok (.getfield 43, 3) := by decide +kernel
theorem d_Y_sizeOf_17 : decode b_Y_sizeOf 17 = .ok (.aload_n 0, 1) := by decide +kernel
theorem d_Y_sizeOf_18 : decode b_Y_sizeOf 18 = .ok (.getfield 82, 3) := by decide +kernel
theorem d_Y_sizeOf_21 : decode b_Y_sizeOf 21 = .ok (.iload_n 1, 1) := by decide +kernel
theorem d_Y_sizeOf_22 : decode b_Y_sizeOf 22 = .ok (.iaload, 1) := by decide +kernel
theorem d_Y_sizeOf_23 : decode b_Y_sizeOf 23 = .ok (.iaload, 1) := by decide +kernel
theorem d_Y_sizeOf_24 : decode b_Y_sizeOf 24 = .ok (.ireturn, 1) := by decide +kernel
theorem d_Y_endOf_0 : decode b_Y_endOf 0 = .ok (.aload_n 0, 1) := by decide +kernel
theorem d_Y_endOf_1 : decode b_Y_endOf 1 = .ok (.getfield 88, 3) := by decide +kernel
theorem d_Y_endOf_4 : decode b_Y_endOf 4 = .ok (.iload_n 1, 1) := by decide +kernel
theorem d_Y_endOf_5 : decode b_Y_endOf 5 = .ok (.baload, 1) := by decide +kernel
theorem d_Y_endOf_6 : decode b_Y_endOf 6 = .ok (.ifCond .eq 17, 3) := by decide +kernel
theorem d_Y_endOf_9 : decode b_Y_endOf 9 = .ok (.aload_n 0, 1) := by decide +kernel
theorem d_Y_endOf_10 : decode b_Y_endOf 10 = .ok (.getfield 34, 3) := by decide +kernel
theorem d_Y_endOf_13 : decode b_Y_endOf 13 = .ok (.aload_n 0, 1) := by decide +kernel
theorem d_Y_endOf_14 : decode b_Y_endOf 14 = .ok (.getfield 82, 3) := by decide +kernel
theorem d_Y_endOf_17 : decode b_Y_endOf 17 = .ok (.iload_n 1, 1) := by decide +kernel
theorem d_Y_endOf_18 : decode b_Y_endOf 18 = .ok (.iaload, 1) := by decide +kernel
theorem d_Y_endOf_19 : decode b_Y_endOf 19 = .ok (.iaload, 1) := by decide +kernel
theorem d_Y_endOf_20 : decode b_Y_endOf 20 = .ok (.goto 14, 3) := by decide +kernel
theorem d_Y_endOf_23 : decode b_Y_endOf 23 = .ok (.aload_n 0, 1) := by decide +kernel
theorem d_Y_endOf_24 : decode b_Y_endOf 24 = .ok (.getfield 37, 3) := by decide +kernel
theorem d_Y_endOf_27 : decode b_Y_endOf 27 = .ok (.aload_n 0, 1) := by decide +kernel
theorem d_Y_endOf_28 : decode b_Y_endOf 28 = .ok (.getfield 82, 3) := by decide +kernel
theorem d_Y_endOf_31 : decode b_Y_endOf 31 = .ok (.iload_n 1, 1) := by decide +kernel
theorem d_Y_endOf_32 : decode b_Y_endOf 32 = .ok (.iaload, 1) := by decide +kernel
theorem d_Y_endOf_33 : decode b_Y_endOf 33 = .ok (.iaload, 1) := by decide +kernel
theorem d_Y_endOf_34 : decode b_Y_endOf 34 = .ok (.ireturn, 1) := by decide +kernel
theorem d_Y_queued_0 : decode b_Y_queued 0 = .ok (.iconst 0, 1) := by decide +kernel
theorem d_Y_queued_1 : decode b_Y_queued 1 = .ok (.istore_n 3, 1) := by decide +kernel
theorem d_Y_queued_2 : decode b_Y_queued 2 = .ok (.iconst 0, 1) := by decide +kernel
theorem d_Y_queued_3 : decode b_Y_queued 3 = .ok (.istore 4, 2) := by decide +kernel
theorem d_Y_queued_5 : decode b_Y_queued 5 = .ok (.iload 4, 2) := by decide +kernel
theorem d_Y_queued_7 : decode b_Y_queued 7 = .ok (.bipush 64, 2) := by decide +kernel
theorem d_Y_queued_9 : decode b_Y_queued 9 = .ok (.if_icmp .ge 55, 3) := by decide +kernel
theorem d_Y_queued_12 : decode b_Y_queued 12 = .ok (.iload_n 3, 1) := by decide +kernel
theorem d_Y_queued_13 : decode b_Y_queued 13 = .ok (.aload_n 0, 1) := by decide +kernel
theorem d_Y_queued_14 : decode b_Y_queued 14 = .ok (.getfield 79, 3) := by decide +kernel
theorem d_Y_queued_17 : decode b_Y_queued 17 = .ok (.iload 4, 2) := by decide +kernel
theorem d_Y_queued_19 : decode b_Y_queued 19 = .ok (.iaload, 1) := by decide +kernel
theorem d_Y_queued_20 : decode b_Y_queued 20 = .ok (.iconst 1, 1) := by decide +kernel
theorem d_Y_queued_21 : decode b_Y_queued 21 = .ok (.if_icmp .ne 34, 3) := by decide +kernel
theorem d_Y_queued_24 : decode b_Y_queued 24 = .ok (.aload_n 0, 1) := by decide +kernel
theorem d_Y_queued_25 : decode b_Y_queued 25 = .ok (.getfield 92, 3) := by decide +kernel
theorem d_Y_queued_28 : decode b_Y_queued 28 = .ok (.iload 4, 2) := by decide +kernel
theorem d_Y_queued_30 : decode b_Y_queued 30 = .ok (.iaload, 1) := by decide +kernel
theorem d_Y_queued_31 : decode b_Y_queued 31 = .ok (.iload_n 1, 1) := by decide +kernel
theorem d_Y_queued_32 : decode b_Y_queued 32 = .ok (.if_icmp .ne 23, 3) := by decide +kernel
theorem d_Y_queued_35 : decode b_Y_queued 35 = .ok (.iload_n 2, 1) := by decide +kernel
theorem d_Y_queued_36 : decode b_Y_queued 36 = .ok (.iconst (-1), 1) := by decide +kernel
theorem d_Y_queued_37 : decode b_Y_queued 37 = .ok (.if_icmp .eq 14, 3) := by decide +kernel
theorem d_Y_queued_40 : decode b_Y_queued 40 = .ok (.aload_n 0, 1) := by decide +kernel
theorem d_Y_queued_41 : decode b_Y_queued 41 = .ok (.getfield 82, 3) := by decide +kernel
theorem d_Y_queued_44 : decode b_Y_queued 44 = .ok (.iload 4, 2) := by decide +kernel
theorem d_Y_queued_46 : decode b_Y_queued 46 = .ok (.iaload, 1) := by decide +kernel
theorem d_Y_queued_47 : decode b_Y_queued 47 = .ok (.iload_n 2, 1) := by decide +kernel
theorem d_Y_queued_48 : decode b_Y_queued 48 = .ok (.if_icmp .ne 7, 3) := by decide +kernel
theorem d_Y_queued_51 : decode b_Y_queued 51 = .ok (.iconst 1, 1) := by decide +kernel
theorem d_Y_queued_52 : decode b_Y_queued 52 = .ok (.goto 4, 3) := by decide +kernel
theorem d_Y_queued_55 : decode b_Y_queued 55 = .ok (.iconst 0, 1) := by decide +kernel
theorem d_Y_queued_56 : decode b_Y_queued 56 = .ok (.iadd, 1) := by decide +kernel
theorem d_Y_queued_57 : decode b_Y_queued 57 = .ok (.istore_n 3, 1) := by decide +kernel
theorem d_Y_queued_58 : decode b_Y_queued 58 = .ok (.iinc 4 1, 3) := by decide +kernel
theorem d_Y_queued_61 : decode b_Y_queued 61 = .ok (.goto (-56), 3) := by decide +kernel
theorem d_Y_queued_64 : decode b_Y_queued 64 = .ok (.iload_n 3, 1) := by decide +kernel
theorem d_Y_queued_65 : decode b_Y_queued 65 = .ok (.ireturn, 1) := by decide +kernel
theorem d_Y_on_0 : decode b_Y_on 0 = .ok (.iconst (-1), 1) := by decide +kernel
theorem d_Y_on_1 : decode b_Y_on 1 = .ok (.istore_n 2, 1) := by decide +kernel
theorem d_Y_on_2 : decode b_Y_on 2 = .ok (.iconst 0, 1) := by decide +kernel
theorem d_Y_on_3 : decode b_Y_on 3 = .ok (.istore_n 3, 1) := by decide +kernel
theorem d_Y_on_4 : decode b_Y_on 4 = .ok (.iload_n 3, 1) := by decide +kernel
theorem d_Y_on_5 : decode b_Y_on 5 = .ok (.bipush 64, 2) := by decide +kernel
theorem d_Y_on_7 : decode b_Y_on 7 = .ok (.if_icmp .ge 35, 3) := by decide +kernel
theorem d_Y_on_10 : decode b_Y_on 10 = .ok (.aload_n 0, 1) := by decide +kernel
theorem d_Y_on_11 : decode b_Y_on 11 = .ok (.getfield 79, 3) := by decide +kernel
theorem d_Y_on_14 : decode b_Y_on 14 = .ok (.iload_n 3, 1) := by decide +kernel
theorem d_Y_on_15 : decode b_Y_on 15 = .ok (.iaload, 1) := by decide +kernel
theorem d_Y_on_16 : decode b_Y_on 16 = .ok (.iconst 2, 1) := by decide +kernel
theorem d_Y_on_17 : decode b_Y_on 17 = .ok (.if_icmp .ne 17, 3) := by decide +kernel
theorem d_Y_on_20 : decode b_Y_on 20 = .ok (.aload_n 0, 1) := by decide +kernel
theorem d_Y_on_21 : decode b_Y_on 21 = .ok (.getfield 92, 3) := by decide +kernel
theorem d_Y_on_24 : decode b_Y_on 24 = .ok (.iload_n 3, 1) := by decide +kernel
theorem d_Y_on_25 : decode b_Y_on 25 = .ok (.iaload, 1) := by decide +kernel
theorem d_Y_on_26 : decode b_Y_on 26 = .ok (.iload_n 1, 1) := by decide +kernel
theorem d_Y_on_27 : decode b_Y_on 27 = .ok (.if_icmp .ne 7, 3) := by decide +kernel
theorem d_Y_on_30 : decode b_Y_on 30 = .ok (.iload_n 3, 1) := by decide +kernel
theorem d_Y_on_31 : decode b_Y_on 31 = .ok (.goto 4, 3) := by decide +kernel
theorem d_Y_on_34 : decode b_Y_on 34 = .ok (.iload_n 2, 1) := by decide +kernel
theorem d_Y_on_35 : decode b_Y_on 35 = .ok (.istore_n 2, 1) := by decide +kernel
theorem d_Y_on_36 : decode b_Y_on 36 = .ok (.iinc 3 1, 3) := by decide +kernel
theorem d_Y_on_39 : decode b_Y_on 39 = .ok (.goto (-35), 3) := by decide +kernel
theorem d_Y_on_42 : decode b_Y_on 42 = .ok (.iload_n 2, 1) := by decide +kernel
theorem d_Y_on_43 : decode b_Y_on 43 = .ok (.ireturn, 1) := by decide +kernel
theorem d_Y_lose_0 : decode b_Y_lose 0 = .ok (.aload_n 0, 1) := by decide +kernel
theorem d_Y_lose_1 : decode b_Y_lose 1 = .ok (.getfield 79, 3) := by decide +kernel
theorem d_Y_lose_4 : decode b_Y_lose 4 = .ok (.iload_n 1, 1) := by decide +kernel
theorem d_Y_lose_5 : decode b_Y_lose 5 = .ok (.iconst 0, 1) := by decide +kernel
theorem d_Y_lose_6 : decode b_Y_lose 6 = .ok (.iastore, 1) := by decide +kernel
theorem d_Y_lose_7 : decode b_Y_lose 7 = .ok (.aload_n 0, 1) := by decide +kernel
theorem d_Y_lose_8 : decode b_Y_lose 8 = .ok (.getfield 76, 3) := by decide +kernel
theorem d_Y_lose_11 : decode b_Y_lose 11 = .ok (.iconst 4, 1) := by decide +kernel
theorem d_Y_lose_12 : decode b_Y_lose 12 = .ok (.aload_n 0, 1) := by decide +kernel
theorem d_Y_lose_13 : decode b_Y_lose 13 = .ok (.getfield 82, 3) := by decide +kernel
theorem d_Y_lose_16 : decode b_Y_lose 16 = .ok (.iload_n 1, 1) := by decide +kernel
theorem d_Y_lose_17 : decode b_Y_lose 17 = .ok (.iaload, 1) := by decide +kernel
theorem d_Y_lose_18 : decode b_Y_lose 18 = .ok (.imul, 1) := by decide +kernel
theorem d_Y_lose_19 : decode b_Y_lose 19 = .ok (.iconst 2, 1) := by decide +kernel
theorem d_Y_lose_20 : decode b_Y_lose 20 = .ok (.iadd, 1) := by decide +kernel
theorem d_Y_lose_21 : decode b_Y_lose 21 = .ok (.dup2, 1) := by decide +kernel
theorem d_Y_lose_22 : decode b_Y_lose 22 = .ok (.iaload, 1) := by decide +kernel
theorem d_Y_lose_23 : decode b_Y_lose 23 = .ok (.iconst 1, 1) := by decide +kernel
theorem d_Y_lose_24 : decode b_Y_lose 24 = .ok (.iadd, 1) := by decide +kernel
theorem d_Y_lose_25 : decode b_Y_lose 25 = .ok (.iastore, 1) := by decide +kernel
theorem d_Y_lose_26 : decode b_Y_lose 26 = .ok (.return_, 1) := by decide +kernel
theorem d_Y_leader_0 : decode b_Y_leader 0 = .ok (.iconst (-1), 1) := by decide +kernel
theorem d_Y_leader_1 : decode b_Y_leader 1 = .ok (.istore_n 2, 1) := by decide +kernel
theorem d_Y_leader_2 : decode b_Y_leader 2 = .ok (.iconst 0, 1) := by decide +kernel
theorem d_Y_leader_3 : decode b_Y_leader 3 = .ok (.istore_n 3, 1) := by decide +kernel
theorem d_Y_leader_4 : decode b_Y_leader 4 = .ok (.iload_n 3, 1) := by decide +kernel
theorem d_Y_leader_5 : decode b_Y_leader 5 = .ok (.aload_n 0, 1) := by decide +kernel
theorem d_Y_leader_6 : decode b_Y_leader 6 = .ok (.getfield 121, 3) := by decide +kernel
theorem d_Y_leader_9 : decode b_Y_leader 9 = .ok (.if_icmp .ge 50, 3) := by decide +kernel
theorem d_Y_leader_12 : decode b_Y_leader 12 = .ok (.aload_n 0, 1) := by decide +kernel
theorem d_Y_leader_13 : decode b_Y_leader 13 = .ok (.iload_n 1, 1) := by decide +kernel
theorem d_Y_leader_14 : decode b_Y_leader 14 = .ok (.iload_n 3, 1) := by decide +kernel
theorem d_Y_leader_15 : decode b_Y_leader 15 = .ok (.invokevirtual 179, 3) := by decide +kernel
theorem d_Y_leader_18 : decode b_Y_leader 18 = .ok (.ifCond .le 35, 3) := by decide +kernel
theorem d_Y_leader_21 : decode b_Y_leader 21 = .ok (.iload_n 2, 1) := by decide +kernel
theorem d_Y_leader_22 : decode b_Y_leader 22 = .ok (.iconst (-1), 1) := by decide +kernel
theorem d_Y_leader_23 : decode b_Y_leader 23 = .ok (.if_icmp .eq 28, 3) := by decide +kernel
theorem d_Y_leader_26 : decode b_Y_leader 26 = .ok (.aload_n 0, 1) := by decide +kernel
theorem d_Y_leader_27 : decode b_Y_leader 27 = .ok (.getfield 101, 3) := by decide +kernel
theorem d_Y_leader_30 : decode b_Y_leader 30 = .ok (.bipush 6, 2) := by decide +kernel
theorem d_Y_leader_32 : decode b_Y_leader 32 = .ok (.iload_n 1, 1) := by decide +kernel
theorem d_Y_leader_33 : decode b_Y_leader 33 = .ok (.imul, 1) := by decide +kernel
theorem d_Y_leader_34 : decode b_Y_leader 34 = .ok (.iload_n 3, 1) := by decide +kernel
theorem d_Y_leader_35 : decode b_Y_leader 35 = .ok (.iadd, 1) := by decide +kernel
theorem d_Y_leader_36 : decode b_Y_leader 36 = .ok (.iaload, 1) := by decide +kernel
theorem d_Y_leader_37 : decode b_Y_leader 37 = .ok (.aload_n 0, 1) := by decide +kernel
theorem d_Y_leader_38 : decode b_Y_leader 38 = .ok (.getfield 101, 3) := by decide +kernel
theorem d_Y_leader_41 : decode b_Y_leader 41 = .ok (.bipush 6, 2) := by decide +kernel
theorem d_Y_leader_43 : decode b_Y_leader 43 = .ok (.iload_n 1, 1) := by decide +kernel
theorem d_Y_leader_44 : decode b_Y_leader 44 = .ok (.imul, 1) := by decide +kernel
theorem d_Y_leader_45 : decode b_Y_leader 45 = .ok (.iload_n 2, 1) := by decide +kernel
theorem d_Y_leader_46 : decode b_Y_leader 46 = .ok (.iadd, 1) := by decide +kernel
theorem d_Y_leader_47 : decode b_Y_leader 47 = .ok (.iaload, 1) := by decide +kernel
theorem d_Y_leader_48 : decode b_Y_leader 48 = .ok (.if_icmp .ge 5, 3) := by decide +kernel
theorem d_Y_leader_51 : decode b_Y_leader 51 = .ok (.iload_n 3, 1) := by decide +kernel
theorem d_Y_leader_52 : decode b_Y_leader 52 = .ok (.istore_n 2, 1) := by decide +kernel
theorem d_Y_leader_53 : decode b_Y_leader 53 = .ok (.iinc 3 1, 3) := by decide +kernel
theorem d_Y_leader_56 : decode b_Y_leader 56 = .ok (.goto (-52), 3) := by decide +kernel
theorem d_Y_leader_59 : decode b_Y_leader 59 = .ok (.iload_n 2, 1) := by decide +kernel
theorem d_Y_leader_60 : decode b_Y_leader 60 = .ok (.ireturn, 1) := by decide +kernel
theorem d_Y_head_0 : decode b_Y_head 0 = .ok (.iconst (-1), 1) := by decide +kernel
theorem d_Y_head_1 : decode b_Y_head 1 = .ok (.istore_n 3, 1) := by decide +kernel
theorem d_Y_head_2 : decode b_Y_head 2 = .ok (.iconst 0, 1) := by decide +kernel
theorem d_Y_head_3 : decode b_Y_head 3 = .ok (.istore 4, 2) := by decide +kernel
theorem d_Y_head_5 : decode b_Y_head 5 = .ok (.iload 4, 2) := by decide +kernel
theorem d_Y_head_7 : decode b_Y_head 7 = .ok (.bipush 64, 2) := by decide +kernel
theorem d_Y_head_9 : decode b_Y_head 9 = .ok (.if_icmp .ge 66, 3) := by decide +kernel
theorem d_Y_head_12 : decode b_Y_head 12 = .ok (.aload_n 0, 1) := by decide +kernel
theorem d_Y_head_13 : decode b_Y_head 13 = .ok (.getfield 79, 3) := by decide +kernel
theorem d_Y_head_16 : decode b_Y_head 16 = .ok (.iload 4, 2) := by decide +kernel
theorem d_Y_head_18 : decode b_Y_head 18 = .ok (.iaload, 1) := by decide +kernel
theorem d_Y_head_19 : decode b_Y_head 19 = .ok (.iconst 1, 1) := by decide +kernel
theorem d_Y_head_20 : decode b_Y_head 20 = .ok (.if_icmp .ne 49, 3) := by decide +kernel
theorem d_Y_head_23 : decode b_Y_head 23 = .ok (.aload_n 0, 1) := by decide +kernel
theorem d_Y_head_24 : decode b_Y_head 24 = .ok (.getfield 92, 3) := by decide +kernel
theorem d_Y_head_27 : decode b_Y_head 27 = .ok (.iload 4, 2) := by decide +kernel
theorem d_Y_head_29 : decode b_Y_head 29 = .ok (.iaload, 1) := by decide +kernel
theorem d_Y_head_30 : decode b_Y_head 30 = .ok (.iload_n 1, 1) := by decide +kernel
theorem d_Y_head_31 : decode b_Y_head 31 = .ok (.if_icmp .ne 38, 3) := by decide +kernel
theorem d_Y_head_34 : decode b_Y_head 34 = .ok (.aload_n 0, 1) := by decide +kernel
theorem d_Y_head_35 : decode b_Y_head 35 = .ok (.getfield 82, 3) := by decide +kernel
theorem d_Y_head_38 : decode b_Y_head 38 = .ok (.iload 4, 2) := by decide +kernel
theorem d_Y_head_40 : decode b_Y_head 40 = .ok (.iaload, 1) := by decide +kernel
theorem d_Y_head_41 : decode b_Y_head 41 = .ok (.iload_n 2, 1) := by decide +kernel
theorem d_Y_head_42 : decode b_Y_head 42 = .ok (.if_icmp .ne 27, 3) := by decide +kernel
theorem d_Y_head_45 : decode b_Y_head 45 = .ok (.iload_n 3, 1) := by decide +kernel
theorem d_Y_head_46 : decode b_Y_head 46 = .ok (.iconst (-1), 1) := by decide +kernel
theorem d_Y_head_47 : decode b_Y_head 47 = .ok (.if_icmp .eq 19, 3) := by decide +kernel
theorem d_Y_head_50 : decode b_Y_head 50 = .ok (.aload_n 0, 1) := by decide +kernel
theorem d_Y_head_51 : decode b_Y_head 51 = .ok (.getfield 98, 3) := by decide +kernel
theorem d_Y_head_54 : decode b_Y_head 54 = .ok (.iload 4, 2) := by decide +kernel
theorem d_Y_head_56 : decode b_Y_head 56 = .ok (.iaload, 1) := by decide +kernel
theorem d_Y_head_57 : decode b_Y_head 57 = .ok (.aload_n 0, 1) := by decide +kernel
theorem d_Y_head_58 : decode b_Y_head 58 = .ok (.getfield 98, 3) := by decide +kernel
theorem d_Y_head_61 : decode b_Y_head 61 = .ok (.iload_n 3, 1) := by decide +kernel
theorem d_Y_head_62 : decode b_Y_head 62 = .ok (.iaload, 1) := by decide +kernel
theorem d_Y_head_63 : decode b_Y_head 63 = .ok (.if_icmp .ge 6, 3) := by decide +kernel
theorem d_Y_head_66 : decode b_Y_head 66 = .ok (.iload 4, 2) := by decide +kernel
theorem d_Y_head_68 : decode b_Y_head 68 = .ok (.istore_n 3, 1) := by decide +kernel
theorem d_Y_head_69 : decode b_Y_head 69 = .ok (.iinc 4 1, 3) := by decide +kernel
theorem d_Y_head_72 : decode b_Y_head 72 = .ok (.goto (-67), 3) := by decide +kernel
theorem d_Y_head_75 : decode b_Y_head 75 = .ok (.iload_n 3, 1) := by decide +kernel
theorem d_Y_head_76 : decode b_Y_head 76 = .ok (.ireturn, 1) := by decide +kernel
theorem d_Y_choose_0 : decode b_Y_choose 0 = .ok (.iconst 0, 1) := by decide +kernel
theorem d_Y_choose_1 : decode b_Y_choose 1 = .ok (.istore_n 2, 1) := by decide +kernel
theorem d_Y_choose_2 : decode b_Y_choose 2 = .ok (.iload_n 2, 1) := by decide +kernel
theorem d_Y_choose_3 : decode b_Y_choose 3 = .ok (.bipush 100, 2) := by decide +kernel
theorem d_Y_choose_5 : decode b_Y_choose 5 = .ok (.if_icmp .ge 181, 3) := by decide +kernel
theorem d_Y_choose_8 : decode b_Y_choose 8 = .ok (.aload_n 0, 1) := by decide +kernel
theorem d_Y_choose_9 : decode b_Y_choose 9 = .ok (.iload_n 1, 1) := by decide +kernel
theorem d_Y_choose_10 : decode b_Y_choose 10 = .ok (.invokevirtual 192, 3) := by decide +kernel
theorem d_Y_choose_13 : decode b_Y_choose 13 = .ok (.istore_n 3, 1) := by decide +kernel
theorem d_Y_choose_14 : decode b_Y_choose 14 = .ok (.bipush 6, 2) := by decide +kernel
theorem d_Y_choose_16 : decode b_Y_choose 16 = .ok (.iload_n 1, 1) := by decide +kernel
theorem d_Y_choose_17 : decode b_Y_choose 17 = .ok (.imul, 1) := by decide +kernel
theorem d_Y_choose_18 : decode b_Y_choose 18 = .ok (.iload_n 3, 1) := by decide +kernel
theorem d_Y_choose_19 : decode b_Y_choose 19 = .ok (.iadd, 1) := by decide +kernel
theorem d_Y_choose_20 : decode b_Y_choose 20 = .ok (.istore 4, 2) := by decide +kernel
theorem d_Y_choose_22 : decode b_Y_choose 22 = .ok (.aload_n 0, 1) := by decide +kernel
theorem d_Y_choose_23 : decode b_Y_choose 23 = .ok (.getfield 104, 3) := by decide +kernel
theorem d_Y_choose_26 : decode b_Y_choose 26 = .ok (.iload 4, 2) := by decide +kernel
theorem d_Y_choose_28 : decode b_Y_choose 28 = .ok (.dup2, 1) := by decide +kernel
theorem d_Y_choose_29 : decode b_Y_choose 29 = .ok (.iaload, 1) := by decide +kernel
theorem d_Y_choose_30 : decode b_Y_choose 30 = .ok (.aload_n 0, 1) := by decide +kernel
theorem d_Y_choose_31 : decode b_Y_choose 31 = .ok (.getfield 107, 3) := by decide +kernel
theorem d_Y_choose_34 : decode b_Y_choose 34 = .ok (.iload 4, 2) := by decide +kernel
theorem d_Y_choose_36 : decode b_Y_choose 36 = .ok (.baload, 1) := by decide +kernel
theorem d_Y_choose_37 : decode b_Y_choose 37 = .ok (.ifCond .eq 7, 3) := by decide +kernel
theorem d_Y_choose_40 : decode b_Y_choose 40 = .ok (.iconst 0, 1) := by decide +kernel
theorem d_Y_choose_41 : decode b_Y_choose 41 = .ok (.goto 9, 3) := by decide +kernel
theorem d_Y_choose_44 : decode b_Y_choose 44 = .ok (.aload_n 0, 1) := by decide +kernel
theorem d_Y_choose_45 : decode b_Y_choose 45 = .ok (.getfield 25, 3) := by decide +kernel
theorem d_Y_choose_48 : decode b_Y_choose 48 = .ok (.iload_n 1, 1) := by decide +kernel
theorem d_Y_choose_49 : decode b_Y_choose 49 = .ok (.iaload, 1) := by decide +kernel
theorem d_Y_choose_50 : decode b_Y_choose 50 = .ok (.iadd, 1) := by decide +kernel
theorem d_Y_choose_51 : decode b_Y_choose 51 = .ok (.iastore, 1) := by decide +kernel
theorem d_Y_choose_52 : decode b_Y_choose 52 = .ok (.aload_n 0, 1) := by decide +kernel
theorem d_Y_choose_53 : decode b_Y_choose 53 = .ok (.getfield 107, 3) := by decide +kernel
theorem d_Y_choose_56 : decode b_Y_choose 56 = .ok (.iload 4, 2) := by decide +kernel
theorem d_Y_choose_58 : decode b_Y_choose 58 = .ok (.iconst 1, 1) := by decide +kernel
theorem d_Y_choose_59 : decode b_Y_choose 59 = .ok (.bastore, 1) := by decide +kernel
theorem d_Y_choose_60 : decode b_Y_choose 60 = .ok (.aload_n 0, 1) := by decide +kernel
theorem d_Y_choose_61 : decode b_Y_choose 61 = .ok (.iload_n 1, 1) := by decide +kernel
theorem d_Y_choose_62 : decode b_Y_choose 62 = .ok (.iload_n 3, 1) := by decide +kernel
theorem d_Y_choose_63 : decode b_Y_choose 63 = .ok (.invokevirtual 195, 3) := by decide +kernel
theorem d_Y_choose_66 : decode b_Y_choose 66 = .ok (.istore 5, 2) := by decide +kernel
theorem d_Y_choose_68 : decode b_Y_choose 68 = .ok (.aload_n 0, 1) := by decide +kernel
theorem d_Y_choose_69 : decode b_Y_choose 69 = .ok (.iload 5, 2) := by decide +kernel
theorem d_Y_choose_71 : decode b_Y_choose 71 = .ok (.invokevirtual 198, 3) := by decide +kernel
theorem d_Y_choose_74 : decode b_Y_choose 74 = .ok (.aload_n 0, 1) := by decide +kernel
theorem d_Y_choose_75 : decode b_Y_choose 75 = .ok (.getfield 104, 3) := by decide +kernel
theorem d_Y_choose_78 : decode b_Y_choose 78 = .ok (.iload 4, 2) := by decide +kernel
theorem d_Y_choose_80 : decode b_Y_choose 80 = .ok (.iaload, 1) := by decide +kernel
theorem d_Y_choose_81 : decode b_Y_choose 81 = .ok (.if_icmp .gt 73, 3) := by decide +kernel
theorem d_Y_choose_84 : decode b_Y_choose 84 = .ok (.aload_n 0, 1) := by decide +kernel
theorem d_Y_choose_85 : decode b_Y_choose 85 = .ok (.getfield 104, 3) := by decide +kernel
theorem d_Y_choose_88 : decode b_Y_choose 88 = .ok (.iload 4, 2) := by decide +kernel
theorem d_Y_choose_90 : decode b_Y_choose 90 = .ok (.dup2, 1) := by decide +kernel
theorem d_Y_choose_91 : decode b_Y_choose 91 = .ok (.iaload, 1) := by decide +kernel
theorem d_Y_choose_92 : decode b_Y_choose 92 = .ok (.aload_n 0, 1) := by decide +kernel
theorem d_Y_choose_93 : decode b_Y_choose 93 = .ok (.iload 5, 2) := by decide +kernel
theorem d_Y_choose_95 : decode b_Y_choose 95 = .ok (.invokevirtual 198, 3) := by decide +kernel
theorem d_Y_choose_98 : decode b_Y_choose 98 = .ok (.isub, 1) := by decide +kernel
theorem d_Y_choose_99 : decode b_Y_choose 99 = .ok (.iastore, 1) := by decide +kernel
theorem d_Y_choose_100 : decode b_Y_choose 100 = .ok (.aload_n 0, 1) := by decide +kernel
theorem d_Y_choose_101 : decode b_Y_choose 101 = .ok (.getfield 79, 3) := by decide +kernel
theorem d_Y_choose_104 : decode b_Y_choose 104 = .ok (.iload 5, 2) := by decide +kernel
theorem d_Y_choose_106 : decode b_Y_choose 106 = .ok (.iconst 2, 1) := by decide +kernel
theorem d_Y_choose_107 : decode b_Y_choose 107 = .ok (.iastore, 1) := by decide +kernel
theorem d_Y_choose_108 : decode b_Y_choose 108 = .ok (.aload_n 0, 1) := by decide +kernel
theorem d_Y_choose_109 : decode b_Y_choose 109 = .ok (.getfield 95, 3) := by decide +kernel
theorem d_Y_choose_112 : decode b_Y_choose 112 = .ok (.iload 5, 2) := by decide +kernel
theorem d_Y_choose_114 : decode b_Y_choose 114 = .ok (.aload_n 0, 1) := by decide +kernel
theorem d_Y_choose_115 : decode b_Y_choose 115 = .ok (.getfield 128, 3) := by decide +kernel
theorem d_Y_choose_118 : decode b_Y_choose 118 = .ok (.aload_n 0, 1) := by decide +kernel
theorem d_Y_choose_119 : decode b_Y_choose 119 = .ok (.iload 5, 2) := by decide +kernel
theorem d_Y_choose_121 : decode b_Y_choose 121 = .ok (.invokevirtual 198, 3) := by decide +kernel
theorem d_Y_choose_124 : decode b_Y_choose 124 = .ok (.aload_n 0, 1) := by decide +kernel
theorem d_Y_choose_125 : decode b_Y_choose 125 = .ok (.getfield 19, 3) := by decide +kernel
theorem d_Y_choose_128 : decode b_Y_choose 128 = .ok (.iload_n 1, 1) := by decide +kernel
theorem d_Y_choose_129 : decode b_Y_choose 129 = .ok (.iconst 2, 1) := by decide +kernel
theorem d_Y_choose_130 : decode b_Y_choose 130 = .ok (.idiv, 1) := by decide +kernel
theorem d_Y_choose_131 : decode b_Y_choose 131 = .ok (.iaload, 1) := by decide +kernel
theorem d_Y_choose_132 : decode b_Y_choose 132 = .ok (.imul, 1) := by decide +kernel
theorem d_Y_choose_133 : decode b_Y_choose 133 = .ok (.iadd, 1) := by decide +kernel
theorem d_Y_choose_134 : decode b_Y_choose 134 = .ok (.iastore, 1) := by decide +kernel
theorem d_Y_choose_135 : decode b_Y_choose 135 = .ok (.aload_n 0, 1) := by decide +kernel
theorem d_Y_choose_136 : decode b_Y_choose 136 = .ok (.getfield 98, 3) := by decide +kernel
theorem d_Y_choose_139 : decode b_Y_choose 139 = .ok (.iload 5, 2) := by decide +kernel
theorem d_Y_choose_141 : decode b_Y_choose 141 = .ok (.aload_n 0, 1) := by decide +kernel
theorem d_Y_choose_142 : decode b_Y_choose 142 = .ok (.dup, 1) := by decide +kernel
theorem d_Y_choose_143 : decode b_Y_choose 143 = .ok (.getfield 131, 3) := by decide +kernel
theorem d_Y_choose_146 : decode b_Y_choose 146 = .ok (.iconst 1, 1) := by decide +kernel
theorem d_Y_choose_147 : decode b_Y_choose 147 = .ok (.iadd, 1) := by decide +kernel
theorem d_Y_choose_148 : decode b_Y_choose 148 = .ok (.dup_x1, 1) := by decide +kernel
theorem d_Y_choose_149 : decode b_Y_choose 149 = .ok (.putfield 131, 3) := by decide +kernel
theorem d_Y_choose_152 : decode b_Y_choose 152 = .ok (.iastore, 1) := by decide +kernel
theorem d_Y_choose_153 : decode b_Y_choose 153 = .ok (.return_, 1) := by decide +kernel
theorem d_Y_choose_154 : decode b_Y_choose 154 = .ok (.aload_n 0, 1) := by decide +kernel
theorem d_Y_choose_155 : decode b_Y_choose 155 = .ok (.getfield 101, 3) := by decide +kernel
theorem d_Y_choose_158 : decode b_Y_choose 158 = .ok (.iload 4, 2) := by decide +kernel
theorem d_Y_choose_160 : decode b_Y_choose 160 = .ok (.aload_n 0, 1) := by decide +kernel
theorem d_Y_choose_161 : decode b_Y_choose 161 = .ok (.dup, 1) := by decide +kernel
theorem d_Y_choose_162 : decode b_Y_choose 162 = .ok (.getfield 131, 3) := by decide +kernel
theorem d_Y_choose_165 : decode b_Y_choose 165 = .ok (.iconst 1, 1) := by decide +kernel
theorem d_Y_choose_166 : decode b_Y_choose 166 = .ok (.iadd, 1) := by decide +kernel
theorem d_Y_choose_167 : decode b_Y_choose 167 = .ok (.dup_x1, 1) := by decide +kernel
theorem d_Y_choose_168 : decode b_Y_choose 168 = .ok (.putfield 131, 3) := by decide +kernel
theorem d_Y_choose_171 : decode b_Y_choose 171 = .ok (.iastore, 1) := by decide +kernel
theorem d_Y_choose_172 : decode b_Y_choose 172 = .ok (.aload_n 0, 1) := by decide +kernel
theorem d_Y_choose_173 : decode b_Y_choose 173 = .ok (.getfield 107, 3) := by decide +kernel
theorem d_Y_choose_176 : decode b_Y_choose 176 = .ok (.iload 4, 2) := by decide +kernel
theorem d_Y_choose_178 : decode b_Y_choose 178 = .ok (.iconst 0, 1) := by decide +kernel
theorem d_Y_choose_179 : decode b_Y_choose 179 = .ok (.bastore, 1) := by decide +kernel
theorem d_Y_choose_180 : decode b_Y_choose 180 = .ok (.iinc 2 1, 3) := by decide +kernel
theorem d_Y_choose_183 : decode b_Y_choose 183 = .ok (.goto (-181), 3) := by decide +kernel
theorem d_Y_choose_186 : decode b_Y_choose 186 = .ok (.return_, 1) := by decide +kernel
theorem d_Y_put_0 : decode b_Y_put 0 = .ok (.aload_n 0, 1) := by decide +kernel
theorem d_Y_put_1 : decode b_Y_put 1 = .ok (.iload_n 2, 1) := by decide +kernel
theorem d_Y_put_2 : decode b_Y_put 2 = .ok (.aload_n 0, 1) := by decide +kernel
theorem d_Y_put_3 : decode b_Y_put 3 = .ok (.iload_n 1, 1) := by decide +kernel
theorem d_Y_put_4 : decode b_Y_put 4 = .ok (.invokevirtual 173, 3) := by decide +kernel
theorem d_Y_put_7 : decode b_Y_put 7 = .ok (.invokevirtual 176, 3) := by decide +kernel
theorem d_Y_put_10 : decode b_Y_put 10 = .ok (.istore_n 3, 1) := by decide +kernel
theorem d_Y_put_11 : decode b_Y_put 11 = .ok (.iload_n 3, 1) := by decide +kernel
theorem d_Y_put_12 : decode b_Y_put 12 = .ok (.iconst (-1), 1) := by decide +kernel
theorem d_Y_put_13 : decode b_Y_put 13 = .ok (.if_icmp .eq 18, 3) := by decide +kernel
theorem d_Y_put_16 : decode b_Y_put 16 = .ok (.aload_n 0, 1) := by decide +kernel
theorem d_Y_put_17 : decode b_Y_put 17 = .ok (.iload_n 3, 1) := by decide +kernel
theorem d_Y_put_18 : decode b_Y_put 18 = .ok (.iconst (-1), 1) := by decide +kernel
theorem d_Y_put_19 : decode b_Y_put 19 = .ok (.invokevirtual 179, 3) := by decide +kernel
theorem d_Y_put_22 : decode b_Y_put 22 = .ok (.aload_n 0, 1) := by decide +kernel
theorem d_Y_put_23 : decode b_Y_put 23 = .ok (.getfield 28, 3) := by decide +kernel
theorem d_Y_put_26 : decode b_Y_put 26 = .ok (.iload_n 3, 1) := by decide +kernel
theorem d_Y_put_27 : decode b_Y_put 27 = .ok (.iaload, 1) := by decide +kernel
theorem d_Y_put_28 : decode b_Y_put 28 = .ok (.if_icmp .lt 9, 3) := by decide +kernel
theorem d_Y_put_31 : decode b_Y_put 31 = .ok (.aload_n 0, 1) := by decide +kernel
theorem d_Y_put_32 : decode b_Y_put 32 = .ok (.iload_n 1, 1) := by decide +kernel
theorem d_Y_put_33 : decode b_Y_put 33 = .ok (.invokevirtual 182, 3) := by decide +kernel
theorem d_Y_put_36 : decode b_Y_put 36 = .ok (.return_, 1) := by decide +kernel
theorem d_Y_put_37 : decode b_Y_put 37 = .ok (.bipush 6, 2) := by decide +kernel
theorem d_Y_put_39 : decode b_Y_put 39 = .ok (.iload_n 3, 1) := by decide +kernel
theorem d_Y_put_40 : decode b_Y_put 40 = .ok (.imul, 1) := by decide +kernel
theorem d_Y_put_41 : decode b_Y_put 41 = .ok (.aload_n 0, 1) := by decide +kernel
theorem d_Y_put_42 : decode b_Y_put 42 = .ok (.getfield 82, 3) := by decide +kernel
theorem d_Y_put_45 : decode b_Y_put 45 = .ok (.iload_n 1, 1) := by decide +kernel
theorem d_Y_put_46 : decode b_Y_put 46 = .ok (.iaload, 1) := by decide +kernel
theorem d_Y_put_47 : decode b_Y_put 47 = .ok (.iadd, 1) := by decide +kernel
theorem d_Y_put_48 : decode b_Y_put 48 = .ok (.istore 4, 2) := by decide +kernel
theorem d_Y_put_50 : decode b_Y_put 50 = .ok (.aload_n 0, 1) := by decide +kernel
theorem d_Y_put_51 : decode b_Y_put 51 = .ok (.iload_n 3, 1) := by decide +kernel
theorem d_Y_put_52 : decode b_Y_put 52 = .ok (.aload_n 0, 1) := by decide +kernel
theorem d_Y_put_53 : decode b_Y_put 53 = .ok (.getfield 82, 3) := by decide +kernel
theorem d_Y_put_56 : decode b_Y_put 56 = .ok (.iload_n 1, 1) := by decide +kernel
end
section
theorem d_Y_put_57 : decode b_Y_put 57 = .ok (.iaload, 1) := by decide +kernel
theorem d_Y_put_58 : decode b_Y_put 58 = .ok (.invokevirtual 179, 3) := by decide +kernel
theorem d_Y_put_61 : decode b_Y_put 61 = .ok (.ifCond .ne 37, 3) := by decide +kernel
theorem d_Y_put_64 : decode b_Y_put 64 = .ok (.aload_n 0, 1) := by decide +kernel
theorem d_Y_put_65 : decode b_Y_put 65 = .ok (.getfield 101, 3) := by decide +kernel
theorem d_Y_put_68 : decode b_Y_put 68 = .ok (.iload 4, 2) := by decide +kernel
theorem d_Y_put_70 : decode b_Y_put 70 = .ok (.aload_n 0, 1) := by decide +kernel
theorem d_Y_put_71 : decode b_Y_put 71 = .ok (.dup, 1) := by decide +kernel
theorem d_Y_put_72 : decode b_Y_put 72 = .ok (.getfield 131, 3) := by decide +kernel
theorem d_Y_put_75 : decode b_Y_put 75 = .ok (.iconst 1, 1) := by decide +kernel
theorem d_Y_put_76 : decode b_Y_put 76 = .ok (.iadd, 1) := by decide +kernel
theorem d_Y_put_77 : decode b_Y_put 77 = .ok (.dup_x1, 1) := by decide +kernel
theorem d_Y_put_78 : decode b_Y_put 78 = .ok (.putfield 131, 3) := by decide +kernel
theorem d_Y_put_81 : decode b_Y_put 81 = .ok (.iastore, 1) := by decide +kernel
theorem d_Y_put_82 : decode b_Y_put 82 = .ok (.aload_n 0, 1) := by decide +kernel
theorem d_Y_put_83 : decode b_Y_put 83 = .ok (.getfield 104, 3) := by decide +kernel
theorem d_Y_put_86 : decode b_Y_put 86 = .ok (.iload 4, 2) := by decide +kernel
theorem d_Y_put_88 : decode b_Y_put 88 = .ok (.iconst 0, 1) := by decide +kernel
theorem d_Y_put_89 : decode b_Y_put 89 = .ok (.iastore, 1) := by decide +kernel
theorem d_Y_put_90 : decode b_Y_put 90 = .ok (.aload_n 0, 1) := by decide +kernel
theorem d_Y_put_91 : decode b_Y_put 91 = .ok (.getfield 107, 3) := by decide +kernel
theorem d_Y_put_94 : decode b_Y_put 94 = .ok (.iload 4, 2) := by decide +kernel
theorem d_Y_put_96 : decode b_Y_put 96 = .ok (.iconst 0, 1) := by decide +kernel
theorem d_Y_put_97 : decode b_Y_put 97 = .ok (.bastore, 1) := by decide +kernel
theorem d_Y_put_98 : decode b_Y_put 98 = .ok (.aload_n 0, 1) := by decide +kernel
theorem d_Y_put_99 : decode b_Y_put 99 = .ok (.getfield 79, 3) := by decide +kernel
theorem d_Y_put_102 : decode b_Y_put 102 = .ok (.iload_n 1, 1) := by decide +kernel
theorem d_Y_put_103 : decode b_Y_put 103 = .ok (.iconst 1, 1) := by decide +kernel
theorem d_Y_put_104 : decode b_Y_put 104 = .ok (.iastore, 1) := by decide +kernel
theorem d_Y_put_105 : decode b_Y_put 105 = .ok (.aload_n 0, 1) := by decide +kernel
theorem d_Y_put_106 : decode b_Y_put 106 = .ok (.getfield 92, 3) := by decide +kernel
theorem d_Y_put_109 : decode b_Y_put 109 = .ok (.iload_n 1, 1) := by decide +kernel
theorem d_Y_put_110 : decode b_Y_put 110 = .ok (.iload_n 3, 1) := by decide +kernel
theorem d_Y_put_111 : decode b_Y_put 111 = .ok (.iastore, 1) := by decide +kernel
theorem d_Y_put_112 : decode b_Y_put 112 = .ok (.aload_n 0, 1) := by decide +kernel
theorem d_Y_put_113 : decode b_Y_put 113 = .ok (.getfield 98, 3) := by decide +kernel
theorem d_Y_put_116 : decode b_Y_put 116 = .ok (.iload_n 1, 1) := by decide +kernel
theorem d_Y_put_117 : decode b_Y_put 117 = .ok (.aload_n 0, 1) := by decide +kernel
theorem d_Y_put_118 : decode b_Y_put 118 = .ok (.dup, 1) := by decide +kernel
theorem d_Y_put_119 : decode b_Y_put 119 = .ok (.getfield 131, 3) := by decide +kernel
theorem d_Y_put_122 : decode b_Y_put 122 = .ok (.iconst 1, 1) := by decide +kernel
theorem d_Y_put_123 : decode b_Y_put 123 = .ok (.iadd, 1) := by decide +kernel
theorem d_Y_put_124 : decode b_Y_put 124 = .ok (.dup_x1, 1) := by decide +kernel
theorem d_Y_put_125 : decode b_Y_put 125 = .ok (.putfield 131, 3) := by decide +kernel
theorem d_Y_put_128 : decode b_Y_put 128 = .ok (.iastore, 1) := by decide +kernel
theorem d_Y_put_129 : decode b_Y_put 129 = .ok (.aload_n 0, 1) := by decide +kernel
theorem d_Y_put_130 : decode b_Y_put 130 = .ok (.iload_n 3, 1) := by decide +kernel
theorem d_Y_put_131 : decode b_Y_put 131 = .ok (.invokevirtual 186, 3) := by decide +kernel
theorem d_Y_put_134 : decode b_Y_put 134 = .ok (.iconst (-1), 1) := by decide +kernel
theorem d_Y_put_135 : decode b_Y_put 135 = .ok (.if_icmp .ne 8, 3) := by decide +kernel
theorem d_Y_put_138 : decode b_Y_put 138 = .ok (.aload_n 0, 1) := by decide +kernel
theorem d_Y_put_139 : decode b_Y_put 139 = .ok (.iload_n 3, 1) := by decide +kernel
theorem d_Y_put_140 : decode b_Y_put 140 = .ok (.invokevirtual 189, 3) := by decide +kernel
theorem d_Y_put_143 : decode b_Y_put 143 = .ok (.return_, 1) := by decide +kernel
theorem d_Y_make_0 : decode b_Y_make 0 = .ok (.aload_n 0, 1) := by decide +kernel
theorem d_Y_make_1 : decode b_Y_make 1 = .ok (.getfield 76, 3) := by decide +kernel
theorem d_Y_make_4 : decode b_Y_make 4 = .ok (.iconst 4, 1) := by decide +kernel
theorem d_Y_make_5 : decode b_Y_make 5 = .ok (.iload_n 1, 1) := by decide +kernel
theorem d_Y_make_6 : decode b_Y_make 6 = .ok (.imul, 1) := by decide +kernel
theorem d_Y_make_7 : decode b_Y_make 7 = .ok (.iconst 0, 1) := by decide +kernel
theorem d_Y_make_8 : decode b_Y_make 8 = .ok (.iadd, 1) := by decide +kernel
theorem d_Y_make_9 : decode b_Y_make 9 = .ok (.dup2, 1) := by decide +kernel
theorem d_Y_make_10 : decode b_Y_make 10 = .ok (.iaload, 1) := by decide +kernel
theorem d_Y_make_11 : decode b_Y_make 11 = .ok (.iconst 1, 1) := by decide +kernel
theorem d_Y_make_12 : decode b_Y_make 12 = .ok (.iadd, 1) := by decide +kernel
theorem d_Y_make_13 : decode b_Y_make 13 = .ok (.iastore, 1) := by decide +kernel
theorem d_Y_make_14 : decode b_Y_make 14 = .ok (.iconst 0, 1) := by decide +kernel
theorem d_Y_make_15 : decode b_Y_make 15 = .ok (.istore 5, 2) := by decide +kernel
theorem d_Y_make_17 : decode b_Y_make 17 = .ok (.iload 5, 2) := by decide +kernel
theorem d_Y_make_19 : decode b_Y_make 19 = .ok (.bipush 64, 2) := by decide +kernel
theorem d_Y_make_21 : decode b_Y_make 21 = .ok (.if_icmp .ge 19, 3) := by decide +kernel
theorem d_Y_make_24 : decode b_Y_make 24 = .ok (.aload_n 0, 1) := by decide +kernel
theorem d_Y_make_25 : decode b_Y_make 25 = .ok (.getfield 79, 3) := by decide +kernel
theorem d_Y_make_28 : decode b_Y_make 28 = .ok (.iload 5, 2) := by decide +kernel
theorem d_Y_make_30 : decode b_Y_make 30 = .ok (.iaload, 1) := by decide +kernel
theorem d_Y_make_31 : decode b_Y_make 31 = .ok (.ifCond .eq 9, 3) := by decide +kernel
theorem d_Y_make_34 : decode b_Y_make 34 = .ok (.iinc 5 1, 3) := by decide +kernel
theorem d_Y_make_37 : decode b_Y_make 37 = .ok (.goto (-20), 3) := by decide +kernel
theorem d_Y_make_40 : decode b_Y_make 40 = .ok (.iload 5, 2) := by decide +kernel
theorem d_Y_make_42 : decode b_Y_make 42 = .ok (.bipush 64, 2) := by decide +kernel
theorem d_Y_make_44 : decode b_Y_make 44 = .ok (.if_icmp .ne 18, 3) := by decide +kernel
theorem d_Y_make_47 : decode b_Y_make 47 = .ok (.aload_n 0, 1) := by decide +kernel
theorem d_Y_make_48 : decode b_Y_make 48 = .ok (.getfield 76, 3) := by decide +kernel
theorem d_Y_make_51 : decode b_Y_make 51 = .ok (.iconst 4, 1) := by decide +kernel
theorem d_Y_make_52 : decode b_Y_make 52 = .ok (.iload_n 1, 1) := by decide +kernel
theorem d_Y_make_53 : decode b_Y_make 53 = .ok (.imul, 1) := by decide +kernel
theorem d_Y_make_54 : decode b_Y_make 54 = .ok (.iconst 2, 1) := by decide +kernel
theorem d_Y_make_55 : decode b_Y_make 55 = .ok (.iadd, 1) := by decide +kernel
theorem d_Y_make_56 : decode b_Y_make 56 = .ok (.dup2, 1) := by decide +kernel
theorem d_Y_make_57 : decode b_Y_make 57 = .ok (.iaload, 1) := by decide +kernel
theorem d_Y_make_58 : decode b_Y_make 58 = .ok (.iconst 1, 1) := by decide +kernel
theorem d_Y_make_59 : decode b_Y_make 59 = .ok (.iadd, 1) := by decide +kernel
theorem d_Y_make_60 : decode b_Y_make 60 = .ok (.iastore, 1) := by decide +kernel
theorem d_Y_make_61 : decode b_Y_make 61 = .ok (.return_, 1) := by decide +kernel
theorem d_Y_make_62 : decode b_Y_make 62 = .ok (.aload_n 0, 1) := by decide +kernel
theorem d_Y_make_63 : decode b_Y_make 63 = .ok (.getfield 82, 3) := by decide +kernel
theorem d_Y_make_66 : decode b_Y_make 66 = .ok (.iload 5, 2) := by decide +kernel
theorem d_Y_make_68 : decode b_Y_make 68 = .ok (.iload_n 1, 1) := by decide +kernel
theorem d_Y_make_69 : decode b_Y_make 69 = .ok (.iastore, 1) := by decide +kernel
theorem d_Y_make_70 : decode b_Y_make 70 = .ok (.aload_n 0, 1) := by decide +kernel
theorem d_Y_make_71 : decode b_Y_make 71 = .ok (.getfield 85, 3) := by decide +kernel
theorem d_Y_make_74 : decode b_Y_make 74 = .ok (.iload 5, 2) := by decide +kernel
theorem d_Y_make_76 : decode b_Y_make 76 = .ok (.iload_n 2, 1) := by decide +kernel
theorem d_Y_make_77 : decode b_Y_make 77 = .ok (.iastore, 1) := by decide +kernel
theorem d_Y_make_78 : decode b_Y_make 78 = .ok (.aload_n 0, 1) := by decide +kernel
theorem d_Y_make_79 : decode b_Y_make 79 = .ok (.getfield 88, 3) := by decide +kernel
theorem d_Y_make_82 : decode b_Y_make 82 = .ok (.iload 5, 2) := by decide +kernel
theorem d_Y_make_84 : decode b_Y_make 84 = .ok (.iload_n 3, 1) := by decide +kernel
theorem d_Y_make_85 : decode b_Y_make 85 = .ok (.bastore, 1) := by decide +kernel
theorem d_Y_make_86 : decode b_Y_make 86 = .ok (.aload_n 0, 1) := by decide +kernel
theorem d_Y_make_87 : decode b_Y_make 87 = .ok (.iload 5, 2) := by decide +kernel
theorem d_Y_make_89 : decode b_Y_make 89 = .ok (.iload 4, 2) := by decide +kernel
theorem d_Y_make_91 : decode b_Y_make 91 = .ok (.invokevirtual 169, 3) := by decide +kernel
theorem d_Y_make_94 : decode b_Y_make 94 = .ok (.return_, 1) := by decide +kernel
theorem d_Y_setTimeout_0 : decode b_Y_setTimeout 0 = .ok (.aload_n 0, 1) := by decide +kernel
theorem d_Y_setTimeout_1 : decode b_Y_setTimeout 1 = .ok (.getfield 70, 3) := by decide +kernel
theorem d_Y_setTimeout_4 : decode b_Y_setTimeout 4 = .ok (.iload_n 1, 1) := by decide +kernel
theorem d_Y_setTimeout_5 : decode b_Y_setTimeout 5 = .ok (.aload_n 0, 1) := by decide +kernel
theorem d_Y_setTimeout_6 : decode b_Y_setTimeout 6 = .ok (.getfield 128, 3) := by decide +kernel
theorem d_Y_setTimeout_9 : decode b_Y_setTimeout 9 = .ok (.aload_n 0, 1) := by decide +kernel
theorem d_Y_setTimeout_10 : decode b_Y_setTimeout 10 = .ok (.getfield 49, 3) := by decide +kernel
theorem d_Y_setTimeout_13 : decode b_Y_setTimeout 13 = .ok (.iload_n 1, 1) := by decide +kernel
theorem d_Y_setTimeout_14 : decode b_Y_setTimeout 14 = .ok (.iaload, 1) := by decide +kernel
theorem d_Y_setTimeout_15 : decode b_Y_setTimeout 15 = .ok (.iadd, 1) := by decide +kernel
theorem d_Y_setTimeout_16 : decode b_Y_setTimeout 16 = .ok (.iastore, 1) := by decide +kernel
theorem d_Y_setTimeout_17 : decode b_Y_setTimeout 17 = .ok (.aload_n 0, 1) := by decide +kernel
theorem d_Y_setTimeout_18 : decode b_Y_setTimeout 18 = .ok (.getfield 73, 3) := by decide +kernel
theorem d_Y_setTimeout_21 : decode b_Y_setTimeout 21 = .ok (.iload_n 1, 1) := by decide +kernel
theorem d_Y_setTimeout_22 : decode b_Y_setTimeout 22 = .ok (.aload_n 0, 1) := by decide +kernel
theorem d_Y_setTimeout_23 : decode b_Y_setTimeout 23 = .ok (.dup, 1) := by decide +kernel
theorem d_Y_setTimeout_24 : decode b_Y_setTimeout 24 = .ok (.getfield 131, 3) := by decide +kernel
theorem d_Y_setTimeout_27 : decode b_Y_setTimeout 27 = .ok (.iconst 1, 1) := by decide +kernel
theorem d_Y_setTimeout_28 : decode b_Y_setTimeout 28 = .ok (.iadd, 1) := by decide +kernel
theorem d_Y_setTimeout_29 : decode b_Y_setTimeout 29 = .ok (.dup_x1, 1) := by decide +kernel
theorem d_Y_setTimeout_30 : decode b_Y_setTimeout 30 = .ok (.putfield 131, 3) := by decide +kernel
theorem d_Y_setTimeout_33 : decode b_Y_setTimeout 33 = .ok (.iastore, 1) := by decide +kernel
theorem d_Y_setTimeout_34 : decode b_Y_setTimeout 34 = .ok (.return_, 1) := by decide +kernel
theorem d_Y_fill_0 : decode b_Y_fill 0 = .ok (.aload_n 0, 1) := by decide +kernel
theorem d_Y_fill_1 : decode b_Y_fill 1 = .ok (.getfield 58, 3) := by decide +kernel
theorem d_Y_fill_4 : decode b_Y_fill 4 = .ok (.iload_n 1, 1) := by decide +kernel
theorem d_Y_fill_5 : decode b_Y_fill 5 = .ok (.iaload, 1) := by decide +kernel
theorem d_Y_fill_6 : decode b_Y_fill 6 = .ok (.aload_n 0, 1) := by decide +kernel
theorem d_Y_fill_7 : decode b_Y_fill 7 = .ok (.getfield 55, 3) := by decide +kernel
theorem d_Y_fill_10 : decode b_Y_fill 10 = .ok (.iload_n 1, 1) := by decide +kernel
theorem d_Y_fill_11 : decode b_Y_fill 11 = .ok (.iaload, 1) := by decide +kernel
theorem d_Y_fill_12 : decode b_Y_fill 12 = .ok (.aload_n 0, 1) := by decide +kernel
theorem d_Y_fill_13 : decode b_Y_fill 13 = .ok (.getfield 46, 3) := by decide +kernel
theorem d_Y_fill_16 : decode b_Y_fill 16 = .ok (.iload_n 1, 1) := by decide +kernel
theorem d_Y_fill_17 : decode b_Y_fill 17 = .ok (.iaload, 1) := by decide +kernel
theorem d_Y_fill_18 : decode b_Y_fill 18 = .ok (.iadd, 1) := by decide +kernel
theorem d_Y_fill_19 : decode b_Y_fill 19 = .ok (.if_icmp .ge 65, 3) := by decide +kernel
theorem d_Y_fill_22 : decode b_Y_fill 22 = .ok (.aload_n 0, 1) := by decide +kernel
theorem d_Y_fill_23 : decode b_Y_fill 23 = .ok (.getfield 58, 3) := by decide +kernel
theorem d_Y_fill_26 : decode b_Y_fill 26 = .ok (.iload_n 1, 1) := by decide +kernel
theorem d_Y_fill_27 : decode b_Y_fill 27 = .ok (.iaload, 1) := by decide +kernel
theorem d_Y_fill_28 : decode b_Y_fill 28 = .ok (.aload_n 0, 1) := by decide +kernel
theorem d_Y_fill_29 : decode b_Y_fill 29 = .ok (.getfield 40, 3) := by decide +kernel
theorem d_Y_fill_32 : decode b_Y_fill 32 = .ok (.iload_n 1, 1) := by decide +kernel
theorem d_Y_fill_33 : decode b_Y_fill 33 = .ok (.iaload, 1) := by decide +kernel
theorem d_Y_fill_34 : decode b_Y_fill 34 = .ok (.if_icmp .ge 50, 3) := by decide +kernel
theorem d_Y_fill_37 : decode b_Y_fill 37 = .ok (.aload_n 0, 1) := by decide +kernel
theorem d_Y_fill_38 : decode b_Y_fill 38 = .ok (.getfield 70, 3) := by decide +kernel
theorem d_Y_fill_41 : decode b_Y_fill 41 = .ok (.iload_n 1, 1) := by decide +kernel
theorem d_Y_fill_42 : decode b_Y_fill 42 = .ok (.iaload, 1) := by decide +kernel
theorem d_Y_fill_43 : decode b_Y_fill 43 = .ok (.iconst (-1), 1) := by decide +kernel
theorem d_Y_fill_44 : decode b_Y_fill 44 = .ok (.if_icmp .ne 8, 3) := by decide +kernel
theorem d_Y_fill_47 : decode b_Y_fill 47 = .ok (.aload_n 0, 1) := by decide +kernel
theorem d_Y_fill_48 : decode b_Y_fill 48 = .ok (.iload_n 1, 1) := by decide +kernel
theorem d_Y_fill_49 : decode b_Y_fill 49 = .ok (.invokevirtual 201, 3) := by decide +kernel
theorem d_Y_fill_52 : decode b_Y_fill 52 = .ok (.aload_n 0, 1) := by decide +kernel
theorem d_Y_fill_53 : decode b_Y_fill 53 = .ok (.getfield 58, 3) := by decide +kernel
theorem d_Y_fill_56 : decode b_Y_fill 56 = .ok (.iload_n 1, 1) := by decide +kernel
theorem d_Y_fill_57 : decode b_Y_fill 57 = .ok (.iaload, 1) := by decide +kernel
theorem d_Y_fill_58 : decode b_Y_fill 58 = .ok (.istore_n 2, 1) := by decide +kernel
theorem d_Y_fill_59 : decode b_Y_fill 59 = .ok (.aload_n 0, 1) := by decide +kernel
theorem d_Y_fill_60 : decode b_Y_fill 60 = .ok (.iload_n 1, 1) := by decide +kernel
theorem d_Y_fill_61 : decode b_Y_fill 61 = .ok (.iload_n 2, 1) := by decide +kernel
theorem d_Y_fill_62 : decode b_Y_fill 62 = .ok (.iconst 0, 1) := by decide +kernel
theorem d_Y_fill_63 : decode b_Y_fill 63 = .ok (.aload_n 0, 1) := by decide +kernel
theorem d_Y_fill_64 : decode b_Y_fill 64 = .ok (.getfield 34, 3) := by decide +kernel
theorem d_Y_fill_67 : decode b_Y_fill 67 = .ok (.iload_n 1, 1) := by decide +kernel
theorem d_Y_fill_68 : decode b_Y_fill 68 = .ok (.iaload, 1) := by decide +kernel
theorem d_Y_fill_69 : decode b_Y_fill 69 = .ok (.invokevirtual 204, 3) := by decide +kernel
theorem d_Y_fill_72 : decode b_Y_fill 72 = .ok (.aload_n 0, 1) := by decide +kernel
theorem d_Y_fill_73 : decode b_Y_fill 73 = .ok (.getfield 58, 3) := by decide +kernel
theorem d_Y_fill_76 : decode b_Y_fill 76 = .ok (.iload_n 1, 1) := by decide +kernel
theorem d_Y_fill_77 : decode b_Y_fill 77 = .ok (.iload_n 2, 1) := by decide +kernel
theorem d_Y_fill_78 : decode b_Y_fill 78 = .ok (.iconst 1, 1) := by decide +kernel
theorem d_Y_fill_79 : decode b_Y_fill 79 = .ok (.iadd, 1) := by decide +kernel
theorem d_Y_fill_80 : decode b_Y_fill 80 = .ok (.iastore, 1) := by decide +kernel
theorem d_Y_fill_81 : decode b_Y_fill 81 = .ok (.goto (-81), 3) := by decide +kernel
theorem d_Y_fill_84 : decode b_Y_fill 84 = .ok (.return_, 1) := by decide +kernel
theorem d_Y_arrive_0 : decode b_Y_arrive 0 = .ok (.aload_n 0, 1) := by decide +kernel
theorem d_Y_arrive_1 : decode b_Y_arrive 1 = .ok (.aload_n 0, 1) := by decide +kernel
theorem d_Y_arrive_2 : decode b_Y_arrive 2 = .ok (.getfield 92, 3) := by decide +kernel
theorem d_Y_arrive_5 : decode b_Y_arrive 5 = .ok (.iload_n 1, 1) := by decide +kernel
theorem d_Y_arrive_6 : decode b_Y_arrive 6 = .ok (.iaload, 1) := by decide +kernel
theorem d_Y_arrive_7 : decode b_Y_arrive 7 = .ok (.invokevirtual 166, 3) := by decide +kernel
theorem d_Y_arrive_10 : decode b_Y_arrive 10 = .ok (.istore_n 2, 1) := by decide +kernel
theorem d_Y_arrive_11 : decode b_Y_arrive 11 = .ok (.iload_n 2, 1) := by decide +kernel
theorem d_Y_arrive_12 : decode b_Y_arrive 12 = .ok (.aload_n 0, 1) := by decide +kernel
theorem d_Y_arrive_13 : decode b_Y_arrive 13 = .ok (.iload_n 1, 1) := by decide +kernel
theorem d_Y_arrive_14 : decode b_Y_arrive 14 = .ok (.invokevirtual 173, 3) := by decide +kernel
theorem d_Y_arrive_17 : decode b_Y_arrive 17 = .ok (.if_icmp .eq 10, 3) := by decide +kernel
theorem d_Y_arrive_20 : decode b_Y_arrive 20 = .ok (.aload_n 0, 1) := by decide +kernel
theorem d_Y_arrive_21 : decode b_Y_arrive 21 = .ok (.iload_n 1, 1) := by decide +kernel
theorem d_Y_arrive_22 : decode b_Y_arrive 22 = .ok (.iload_n 2, 1) := by decide +kernel
theorem d_Y_arrive_23 : decode b_Y_arrive 23 = .ok (.invokevirtual 169, 3) := by decide +kernel
theorem d_Y_arrive_26 : decode b_Y_arrive 26 = .ok (.return_, 1) := by decide +kernel
theorem d_Y_arrive_27 : decode b_Y_arrive 27 = .ok (.aload_n 0, 1) := by decide +kernel
theorem d_Y_arrive_28 : decode b_Y_arrive 28 = .ok (.getfield 82, 3) := by decide +kernel
theorem d_Y_arrive_31 : decode b_Y_arrive 31 = .ok (.iload_n 1, 1) := by decide +kernel
theorem d_Y_arrive_32 : decode b_Y_arrive 32 = .ok (.iaload, 1) := by decide +kernel
theorem d_Y_arrive_33 : decode b_Y_arrive 33 = .ok (.istore_n 3, 1) := by decide +kernel
theorem d_Y_arrive_34 : decode b_Y_arrive 34 = .ok (.aload_n 0, 1) := by decide +kernel
theorem d_Y_arrive_35 : decode b_Y_arrive 35 = .ok (.getfield 85, 3) := by decide +kernel
theorem d_Y_arrive_38 : decode b_Y_arrive 38 = .ok (.iload_n 1, 1) := by decide +kernel
theorem d_Y_arrive_39 : decode b_Y_arrive 39 = .ok (.iaload, 1) := by decide +kernel
theorem d_Y_arrive_40 : decode b_Y_arrive 40 = .ok (.istore 4, 2) := by decide +kernel
theorem d_Y_arrive_42 : decode b_Y_arrive 42 = .ok (.aload_n 0, 1) := by decide +kernel
theorem d_Y_arrive_43 : decode b_Y_arrive 43 = .ok (.getfield 79, 3) := by decide +kernel
theorem d_Y_arrive_46 : decode b_Y_arrive 46 = .ok (.iload_n 1, 1) := by decide +kernel
theorem d_Y_arrive_47 : decode b_Y_arrive 47 = .ok (.iconst 0, 1) := by decide +kernel
theorem d_Y_arrive_48 : decode b_Y_arrive 48 = .ok (.iastore, 1) := by decide +kernel
theorem d_Y_arrive_49 : decode b_Y_arrive 49 = .ok (.aload_n 0, 1) := by decide +kernel
theorem d_Y_arrive_50 : decode b_Y_arrive 50 = .ok (.getfield 76, 3) := by decide +kernel
theorem d_Y_arrive_53 : decode b_Y_arrive 53 = .ok (.iconst 4, 1) := by decide +kernel
theorem d_Y_arrive_54 : decode b_Y_arrive 54 = .ok (.iload_n 3, 1) := by decide +kernel
theorem d_Y_arrive_55 : decode b_Y_arrive 55 = .ok (.imul, 1) := by decide +kernel
theorem d_Y_arrive_56 : decode b_Y_arrive 56 = .ok (.iconst 1, 1) := by decide +kernel
theorem d_Y_arrive_57 : decode b_Y_arrive 57 = .ok (.iadd, 1) := by decide +kernel
theorem d_Y_arrive_58 : decode b_Y_arrive 58 = .ok (.dup2, 1) := by decide +kernel
theorem d_Y_arrive_59 : decode b_Y_arrive 59 = .ok (.iaload, 1) := by decide +kernel
theorem d_Y_arrive_60 : decode b_Y_arrive 60 = .ok (.iconst 1, 1) := by decide +kernel
theorem d_Y_arrive_61 : decode b_Y_arrive 61 = .ok (.iadd, 1) := by decide +kernel
theorem d_Y_arrive_62 : decode b_Y_arrive 62 = .ok (.iastore, 1) := by decide +kernel
theorem d_Y_arrive_63 : decode b_Y_arrive 63 = .ok (.aload_n 0, 1) := by decide +kernel
theorem d_Y_arrive_64 : decode b_Y_arrive 64 = .ok (.getfield 88, 3) := by decide +kernel
theorem d_Y_arrive_67 : decode b_Y_arrive 67 = .ok (.iload_n 1, 1) := by decide +kernel
theorem d_Y_arrive_68 : decode b_Y_arrive 68 = .ok (.baload, 1) := by decide +kernel
theorem d_Y_arrive_69 : decode b_Y_arrive 69 = .ok (.ifCond .ne 49, 3) := by decide +kernel
theorem d_Y_arrive_72 : decode b_Y_arrive 72 = .ok (.aload_n 0, 1) := by decide +kernel
theorem d_Y_arrive_73 : decode b_Y_arrive 73 = .ok (.getfield 61, 3) := by decide +kernel
theorem d_Y_arrive_76 : decode b_Y_arrive 76 = .ok (.iload_n 3, 1) := by decide +kernel
theorem d_Y_arrive_77 : decode b_Y_arrive 77 = .ok (.iload 4, 2) := by decide +kernel
theorem d_Y_arrive_79 : decode b_Y_arrive 79 = .ok (.aload_n 0, 1) := by decide +kernel
theorem d_Y_arrive_80 : decode b_Y_arrive 80 = .ok (.getfield 61, 3) := by decide +kernel
theorem d_Y_arrive_83 : decode b_Y_arrive 83 = .ok (.iload_n 3, 1) := by decide +kernel
theorem d_Y_arrive_84 : decode b_Y_arrive 84 = .ok (.iaload, 1) := by decide +kernel
theorem d_Y_arrive_85 : decode b_Y_arrive 85 = .ok (.if_icmp .ne 10, 3) := by decide +kernel
theorem d_Y_arrive_88 : decode b_Y_arrive 88 = .ok (.iload 4, 2) := by decide +kernel
theorem d_Y_arrive_90 : decode b_Y_arrive 90 = .ok (.iconst 1, 1) := by decide +kernel
theorem d_Y_arrive_91 : decode b_Y_arrive 91 = .ok (.iadd, 1) := by decide +kernel
theorem d_Y_arrive_92 : decode b_Y_arrive 92 = .ok (.goto 9, 3) := by decide +kernel
theorem d_Y_arrive_95 : decode b_Y_arrive 95 = .ok (.aload_n 0, 1) := by decide +kernel
theorem d_Y_arrive_96 : decode b_Y_arrive 96 = .ok (.getfield 61, 3) := by decide +kernel
theorem d_Y_arrive_99 : decode b_Y_arrive 99 = .ok (.iload_n 3, 1) := by decide +kernel
theorem d_Y_arrive_100 : decode b_Y_arrive 100 = .ok (.iaload, 1) := by decide +kernel
theorem d_Y_arrive_101 : decode b_Y_arrive 101 = .ok (.iastore, 1) := by decide +kernel
theorem d_Y_arrive_102 : decode b_Y_arrive 102 = .ok (.aload_n 0, 1) := by decide +kernel
theorem d_Y_arrive_103 : decode b_Y_arrive 103 = .ok (.iload_n 3, 1) := by decide +kernel
theorem d_Y_arrive_104 : decode b_Y_arrive 104 = .ok (.aload_n 0, 1) := by decide +kernel
theorem d_Y_arrive_105 : decode b_Y_arrive 105 = .ok (.getfield 61, 3) := by decide +kernel
theorem d_Y_arrive_108 : decode b_Y_arrive 108 = .ok (.iload_n 3, 1) := by decide +kernel
theorem d_Y_arrive_109 : decode b_Y_arrive 109 = .ok (.iaload, 1) := by decide +kernel
theorem d_Y_arrive_110 : decode b_Y_arrive 110 = .ok (.iconst 1, 1) := by decide +kernel
theorem d_Y_arrive_111 : decode b_Y_arrive 111 = .ok (.iload_n 2, 1) := by decide +kernel
theorem d_Y_arrive_112 : decode b_Y_arrive 112 = .ok (.invokevirtual 204, 3) := by decide +kernel
theorem d_Y_arrive_115 : decode b_Y_arrive 115 = .ok (.goto 82, 3) := by decide +kernel
theorem d_Y_arrive_118 : decode b_Y_arrive 118 = .ok (.iload 4, 2) := by decide +kernel
theorem d_Y_arrive_120 : decode b_Y_arrive 120 = .ok (.aload_n 0, 1) := by decide +kernel
theorem d_Y_arrive_121 : decode b_Y_arrive 121 = .ok (.getfield 55, 3) := by decide +kernel
theorem d_Y_arrive_124 : decode b_Y_arrive 124 = .ok (.iload_n 3, 1) := by decide +kernel
theorem d_Y_arrive_125 : decode b_Y_arrive 125 = .ok (.iaload, 1) := by decide +kernel
theorem d_Y_arrive_126 : decode b_Y_arrive 126 = .ok (.if_icmp .le 71, 3) := by decide +kernel
theorem d_Y_arrive_129 : decode b_Y_arrive 129 = .ok (.aload_n 0, 1) := by decide +kernel
theorem d_Y_arrive_130 : decode b_Y_arrive 130 = .ok (.getfield 55, 3) := by decide +kernel
theorem d_Y_arrive_133 : decode b_Y_arrive 133 = .ok (.iload_n 3, 1) := by decide +kernel
theorem d_Y_arrive_134 : decode b_Y_arrive 134 = .ok (.iload 4, 2) := by decide +kernel
theorem d_Y_arrive_136 : decode b_Y_arrive 136 = .ok (.iastore, 1) := by decide +kernel
theorem d_Y_arrive_137 : decode b_Y_arrive 137 = .ok (.aload_n 0, 1) := by decide +kernel
theorem d_Y_arrive_138 : decode b_Y_arrive 138 = .ok (.getfield 58, 3) := by decide +kernel
theorem d_Y_arrive_141 : decode b_Y_arrive 141 = .ok (.iload_n 3, 1) := by decide +kernel
theorem d_Y_arrive_142 : decode b_Y_arrive 142 = .ok (.aload_n 0, 1) := by decide +kernel
theorem d_Y_arrive_143 : decode b_Y_arrive 143 = .ok (.getfield 58, 3) := by decide +kernel
theorem d_Y_arrive_146 : decode b_Y_arrive 146 = .ok (.iload_n 3, 1) := by decide +kernel
theorem d_Y_arrive_147 : decode b_Y_arrive 147 = .ok (.iaload, 1) := by decide +kernel
theorem d_Y_arrive_148 : decode b_Y_arrive 148 = .ok (.iload 4, 2) := by decide +kernel
theorem d_Y_arrive_150 : decode b_Y_arrive 150 = .ok (.if_icmp .ge 8, 3) := by decide +kernel
theorem d_Y_arrive_153 : decode b_Y_arrive 153 = .ok (.iload 4, 2) := by decide +kernel
theorem d_Y_arrive_155 : decode b_Y_arrive 155 = .ok (.goto 9, 3) := by decide +kernel
theorem d_Y_arrive_158 : decode b_Y_arrive 158 = .ok (.aload_n 0, 1) := by decide +kernel
theorem d_Y_arrive_159 : decode b_Y_arrive 159 = .ok (.getfield 58, 3) := by decide +kernel
theorem d_Y_arrive_162 : decode b_Y_arrive 162 = .ok (.iload_n 3, 1) := by decide +kernel
theorem d_Y_arrive_163 : decode b_Y_arrive 163 = .ok (.iaload, 1) := by decide +kernel
theorem d_Y_arrive_164 : decode b_Y_arrive 164 = .ok (.iastore, 1) := by decide +kernel
theorem d_Y_arrive_165 : decode b_Y_arrive 165 = .ok (.aload_n 0, 1) := by decide +kernel
theorem d_Y_arrive_166 : decode b_Y_arrive 166 = .ok (.getfield 70, 3) := by decide +kernel
theorem d_Y_arrive_169 : decode b_Y_arrive 169 = .ok (.iload_n 3, 1) := by decide +kernel
theorem d_Y_arrive_170 : decode b_Y_arrive 170 = .ok (.iconst (-1), 1) := by decide +kernel
theorem d_Y_arrive_171 : decode b_Y_arrive 171 = .ok (.iastore, 1) := by decide +kernel
theorem d_Y_arrive_172 : decode b_Y_arrive 172 = .ok (.aload_n 0, 1) := by decide +kernel
theorem d_Y_arrive_173 : decode b_Y_arrive 173 = .ok (.getfield 55, 3) := by decide +kernel
theorem d_Y_arrive_176 : decode b_Y_arrive 176 = .ok (.iload_n 3, 1) := by decide +kernel
theorem d_Y_arrive_177 : decode b_Y_arrive 177 = .ok (.iaload, 1) := by decide +kernel
theorem d_Y_arrive_178 : decode b_Y_arrive 178 = .ok (.aload_n 0, 1) := by decide +kernel
theorem d_Y_arrive_179 : decode b_Y_arrive 179 = .ok (.getfield 58, 3) := by decide +kernel
theorem d_Y_arrive_182 : decode b_Y_arrive 182 = .ok (.iload_n 3, 1) := by decide +kernel
theorem d_Y_arrive_183 : decode b_Y_arrive 183 = .ok (.iaload, 1) := by decide +kernel
theorem d_Y_arrive_184 : decode b_Y_arrive 184 = .ok (.if_icmp .ge 8, 3) := by decide +kernel
theorem d_Y_arrive_187 : decode b_Y_arrive 187 = .ok (.aload_n 0, 1) := by decide +kernel
theorem d_Y_arrive_188 : decode b_Y_arrive 188 = .ok (.iload_n 3, 1) := by decide +kernel
theorem d_Y_arrive_189 : decode b_Y_arrive 189 = .ok (.invokevirtual 201, 3) := by decide +kernel
theorem d_Y_arrive_192 : decode b_Y_arrive 192 = .ok (.aload_n 0, 1) := by decide +kernel
theorem d_Y_arrive_193 : decode b_Y_arrive 193 = .ok (.iload_n 3, 1) := by decide +kernel
theorem d_Y_arrive_194 : decode b_Y_arrive 194 = .ok (.invokevirtual 208, 3) := by decide +kernel
theorem d_Y_arrive_197 : decode b_Y_arrive 197 = .ok (.return_, 1) := by decide +kernel
theorem d_Y_begin_0 : decode b_Y_begin 0 = .ok (.aload_n 0, 1) := by decide +kernel
theorem d_Y_begin_1 : decode b_Y_begin 1 = .ok (.getfield 124, 3) := by decide +kernel
theorem d_Y_begin_4 : decode b_Y_begin 4 = .ok (.ifCond .eq 4, 3) := by decide +kernel
theorem d_Y_begin_7 : decode b_Y_begin 7 = .ok (.return_, 1) := by decide +kernel
theorem d_Y_begin_8 : decode b_Y_begin 8 = .ok (.aload_n 0, 1) := by decide +kernel
theorem d_Y_begin_9 : decode b_Y_begin 9 = .ok (.iconst 1, 1) := by decide +kernel
theorem d_Y_begin_10 : decode b_Y_begin 10 = .ok (.putfield 124, 3) := by decide +kernel
theorem d_Y_begin_13 : decode b_Y_begin 13 = .ok (.iconst 0, 1) := by decide +kernel
theorem d_Y_begin_14 : decode b_Y_begin 14 = .ok (.istore_n 1, 1) := by decide +kernel
theorem d_Y_begin_15 : decode b_Y_begin 15 = .ok (.iload_n 1, 1) := by decide +kernel
theorem d_Y_begin_16 : decode b_Y_begin 16 = .ok (.aload_n 0, 1) := by decide +kernel
theorem d_Y_begin_17 : decode b_Y_begin 17 = .ok (.getfield 121, 3) := by decide +kernel
theorem d_Y_begin_20 : decode b_Y_begin 20 = .ok (.if_icmp .ge 38, 3) := by decide +kernel
theorem d_Y_begin_23 : decode b_Y_begin 23 = .ok (.aload_n 0, 1) := by decide +kernel
theorem d_Y_begin_24 : decode b_Y_begin 24 = .ok (.getfield 64, 3) := by decide +kernel
theorem d_Y_begin_27 : decode b_Y_begin 27 = .ok (.iload_n 1, 1) := by decide +kernel
theorem d_Y_begin_28 : decode b_Y_begin 28 = .ok (.aload_n 0, 1) := by decide +kernel
theorem d_Y_begin_29 : decode b_Y_begin 29 = .ok (.getfield 52, 3) := by decide +kernel
theorem d_Y_begin_32 : decode b_Y_begin 32 = .ok (.iload_n 1, 1) := by decide +kernel
theorem d_Y_begin_33 : decode b_Y_begin 33 = .ok (.iaload, 1) := by decide +kernel
theorem d_Y_begin_34 : decode b_Y_begin 34 = .ok (.iastore, 1) := by decide +kernel
theorem d_Y_begin_35 : decode b_Y_begin 35 = .ok (.aload_n 0, 1) := by decide +kernel
theorem d_Y_begin_36 : decode b_Y_begin 36 = .ok (.getfield 67, 3) := by decide +kernel
theorem d_Y_begin_39 : decode b_Y_begin 39 = .ok (.iload_n 1, 1) := by decide +kernel
theorem d_Y_begin_40 : decode b_Y_begin 40 = .ok (.aload_n 0, 1) := by decide +kernel
theorem d_Y_begin_41 : decode b_Y_begin 41 = .ok (.dup, 1) := by decide +kernel
theorem d_Y_begin_42 : decode b_Y_begin 42 = .ok (.getfield 131, 3) := by decide +kernel
theorem d_Y_begin_45 : decode b_Y_begin 45 = .ok (.iconst 1, 1) := by decide +kernel
theorem d_Y_begin_46 : decode b_Y_begin 46 = .ok (.iadd, 1) := by decide +kernel
theorem d_Y_begin_47 : decode b_Y_begin 47 = .ok (.dup_x1, 1) := by decide +kernel
theorem d_Y_begin_48 : decode b_Y_begin 48 = .ok (.putfield 131, 3) := by decide +kernel
theorem d_Y_begin_51 : decode b_Y_begin 51 = .ok (.iastore, 1) := by decide +kernel
theorem d_Y_begin_52 : decode b_Y_begin 52 = .ok (.iinc 1 1, 3) := by decide +kernel
theorem d_Y_begin_55 : decode b_Y_begin 55 = .ok (.goto (-40), 3) := by decide +kernel
theorem d_Y_begin_58 : decode b_Y_begin 58 = .ok (.return_, 1) := by decide +kernel
theorem d_Y_note_0 : decode b_Y_note 0 = .ok (.aload_n 0, 1) := by decide +kernel
theorem d_Y_note_1 : decode b_Y_note 1 = .ok (.getfield 110, 3) := by decide +kernel
theorem d_Y_note_4 : decode b_Y_note 4 = .ok (.aload_n 0, 1) := by decide +kernel
theorem d_Y_note_5 : decode b_Y_note 5 = .ok (.getfield 134, 3) := by decide +kernel
theorem d_Y_note_8 : decode b_Y_note 8 = .ok (.bipush 16, 2) := by decide +kernel
theorem d_Y_note_10 : decode b_Y_note 10 = .ok (.irem, 1) := by decide +kernel
theorem d_Y_note_11 : decode b_Y_note 11 = .ok (.aload_n 0, 1) := by decide +kernel
theorem d_Y_note_12 : decode b_Y_note 12 = .ok (.getfield 128, 3) := by decide +kernel
theorem d_Y_note_15 : decode b_Y_note 15 = .ok (.i2l, 1) := by decide +kernel
theorem d_Y_note_16 : decode b_Y_note 16 = .ok (.ldc2_w 211, 3) := by decide +kernel
theorem d_Y_note_19 : decode b_Y_note 19 = .ok (.lmul, 1) := by decide +kernel
theorem d_Y_note_20 : decode b_Y_note 20 = .ok (.iload_n 1, 1) := by decide +kernel
theorem d_Y_note_21 : decode b_Y_note 21 = .ok (.i2l, 1) := by decide +kernel
theorem d_Y_note_22 : decode b_Y_note 22 = .ok (.ldc2_w 213, 3) := by decide +kernel
theorem d_Y_note_25 : decode b_Y_note 25 = .ok (.lmul, 1) := by decide +kernel
theorem d_Y_note_26 : decode b_Y_note 26 = .ok (.ladd, 1) := by decide +kernel
theorem d_Y_note_27 : decode b_Y_note 27 = .ok (.iload_n 2, 1) := by decide +kernel
theorem d_Y_note_28 : decode b_Y_note 28 = .ok (.i2l, 1) := by decide +kernel
theorem d_Y_note_29 : decode b_Y_note 29 = .ok (.ldc2_w 215, 3) := by decide +kernel
theorem d_Y_note_32 : decode b_Y_note 32 = .ok (.lmul, 1) := by decide +kernel
theorem d_Y_note_33 : decode b_Y_note 33 = .ok (.ladd, 1) := by decide +kernel
theorem d_Y_note_34 : decode b_Y_note 34 = .ok (.iload_n 3, 1) := by decide +kernel
theorem d_Y_note_35 : decode b_Y_note 35 = .ok (.i2l, 1) := by decide +kernel
theorem d_Y_note_36 : decode b_Y_note 36 = .ok (.ladd, 1) := by decide +kernel
theorem d_Y_note_37 : decode b_Y_note 37 = .ok (.lastore, 1) := by decide +kernel
theorem d_Y_note_38 : decode b_Y_note 38 = .ok (.aload_n 0, 1) := by decide +kernel
theorem d_Y_note_39 : decode b_Y_note 39 = .ok (.dup, 1) := by decide +kernel
theorem d_Y_note_40 : decode b_Y_note 40 = .ok (.getfield 134, 3) := by decide +kernel
theorem d_Y_note_43 : decode b_Y_note 43 = .ok (.iconst 1, 1) := by decide +kernel
theorem d_Y_note_44 : decode b_Y_note 44 = .ok (.iadd, 1) := by decide +kernel
theorem d_Y_note_45 : decode b_Y_note 45 = .ok (.putfield 134, 3) := by decide +kernel
theorem d_Y_note_48 : decode b_Y_note 48 = .ok (.return_, 1) := by decide +kernel
theorem d_Y_sooner_0 : decode b_Y_sooner 0 = .ok (.iload_n 2, 1) := by decide +kernel
theorem d_Y_sooner_1 : decode b_Y_sooner 1 = .ok (.i2l, 1) := by decide +kernel
theorem d_Y_sooner_2 : decode b_Y_sooner 2 = .ok (.ldc2_w 221, 3) := by decide +kernel
theorem d_Y_sooner_5 : decode b_Y_sooner 5 = .ok (.lmul, 1) := by decide +kernel
theorem d_Y_sooner_6 : decode b_Y_sooner 6 = .ok (.iload_n 3, 1) := by decide +kernel
theorem d_Y_sooner_7 : decode b_Y_sooner 7 = .ok (.i2l, 1) := by decide +kernel
theorem d_Y_sooner_8 : decode b_Y_sooner 8 = .ok (.ladd, 1) := by decide +kernel
theorem d_Y_sooner_9 : decode b_Y_sooner 9 = .ok (.lstore 4, 2) := by decide +kernel
theorem d_Y_sooner_11 : decode b_Y_sooner 11 = .ok (.lload_n 0, 1) := by decide +kernel
theorem d_Y_sooner_12 : decode b_Y_sooner 12 = .ok (.lconst 0, 1) := by decide +kernel
theorem d_Y_sooner_13 : decode b_Y_sooner 13 = .ok (.lcmp, 1) := by decide +kernel
theorem d_Y_sooner_14 : decode b_Y_sooner 14 = .ok (.ifCond .eq 10, 3) := by decide +kernel
theorem d_Y_sooner_17 : decode b_Y_sooner 17 = .ok (.lload 4, 2) := by decide +kernel
theorem d_Y_sooner_19 : decode b_Y_sooner 19 = .ok (.lload_n 0, 1) := by decide +kernel
theorem d_Y_sooner_20 : decode b_Y_sooner 20 = .ok (.lcmp, 1) := by decide +kernel
theorem d_Y_sooner_21 : decode b_Y_sooner 21 = .ok (.ifCond .ge 8, 3) := by decide +kernel
theorem d_Y_sooner_24 : decode b_Y_sooner 24 = .ok (.lload 4, 2) := by decide +kernel
theorem d_Y_sooner_26 : decode b_Y_sooner 26 = .ok (.goto 4, 3) := by decide +kernel
theorem d_Y_sooner_29 : decode b_Y_sooner 29 = .ok (.lload_n 0, 1) := by decide +kernel
theorem d_Y_sooner_30 : decode b_Y_sooner 30 = .ok (.lreturn, 1) := by decide +kernel
theorem d_Y_soonest_0 : decode b_Y_soonest 0 = .ok (.lconst 0, 1) := by decide +kernel
theorem d_Y_soonest_1 : decode b_Y_soonest 1 = .ok (.lstore_n 1, 1) := by decide +kernel
theorem d_Y_soonest_2 : decode b_Y_soonest 2 = .ok (.iconst 0, 1) := by decide +kernel
theorem d_Y_soonest_3 : decode b_Y_soonest 3 = .ok (.istore_n 3, 1) := by decide +kernel
theorem d_Y_soonest_4 : decode b_Y_soonest 4 = .ok (.iload_n 3, 1) := by decide +kernel
theorem d_Y_soonest_5 : decode b_Y_soonest 5 = .ok (.bipush 64, 2) := by decide +kernel
theorem d_Y_soonest_7 : decode b_Y_soonest 7 = .ok (.if_icmp .ge 36, 3) := by decide +kernel
theorem d_Y_soonest_10 : decode b_Y_soonest 10 = .ok (.aload_n 0, 1) := by decide +kernel
theorem d_Y_soonest_11 : decode b_Y_soonest 11 = .ok (.getfield 79, 3) := by decide +kernel
theorem d_Y_soonest_14 : decode b_Y_soonest 14 = .ok (.iload_n 3, 1) := by decide +kernel
theorem d_Y_soonest_15 : decode b_Y_soonest 15 = .ok (.iaload, 1) := by decide +kernel
theorem d_Y_soonest_16 : decode b_Y_soonest 16 = .ok (.iconst 2, 1) := by decide +kernel
theorem d_Y_soonest_17 : decode b_Y_soonest 17 = .ok (.if_icmp .lt 20, 3) := by decide +kernel
theorem d_Y_soonest_20 : decode b_Y_soonest 20 = .ok (.lload_n 1, 1) := by decide +kernel
theorem d_Y_soonest_21 : decode b_Y_soonest 21 = .ok (.aload_n 0, 1) := by decide +kernel
theorem d_Y_soonest_22 : decode b_Y_soonest 22 = .ok (.getfield 95, 3) := by decide +kernel
theorem d_Y_soonest_25 : decode b_Y_soonest 25 = .ok (.iload_n 3, 1) := by decide +kernel
theorem d_Y_soonest_26 : decode b_Y_soonest 26 = .ok (.iaload, 1) := by decide +kernel
theorem d_Y_soonest_27 : decode b_Y_soonest 27 = .ok (.aload_n 0, 1) := by decide +kernel
theorem d_Y_soonest_28 : decode b_Y_soonest 28 = .ok (.getfield 98, 3) := by decide +kernel
theorem d_Y_soonest_31 : decode b_Y_soonest 31 = .ok (.iload_n 3, 1) := by decide +kernel
theorem d_Y_soonest_32 : decode b_Y_soonest 32 = .ok (.iaload, 1) := by decide +kernel
theorem d_Y_soonest_33 : decode b_Y_soonest 33 = .ok (.invokestatic 217, 3) := by decide +kernel
theorem d_Y_soonest_36 : decode b_Y_soonest 36 = .ok (.lstore_n 1, 1) := by decide +kernel
theorem d_Y_soonest_37 : decode b_Y_soonest 37 = .ok (.iinc 3 1, 3) := by decide +kernel
theorem d_Y_soonest_40 : decode b_Y_soonest 40 = .ok (.goto (-36), 3) := by decide +kernel
theorem d_Y_soonest_43 : decode b_Y_soonest 43 = .ok (.iconst 0, 1) := by decide +kernel
theorem d_Y_soonest_44 : decode b_Y_soonest 44 = .ok (.istore_n 3, 1) := by decide +kernel
theorem d_Y_soonest_45 : decode b_Y_soonest 45 = .ok (.iload_n 3, 1) := by decide +kernel
theorem d_Y_soonest_46 : decode b_Y_soonest 46 = .ok (.aload_n 0, 1) := by decide +kernel
theorem d_Y_soonest_47 : decode b_Y_soonest 47 = .ok (.getfield 121, 3) := by decide +kernel
theorem d_Y_soonest_50 : decode b_Y_soonest 50 = .ok (.if_icmp .ge 63, 3) := by decide +kernel
theorem d_Y_soonest_53 : decode b_Y_soonest 53 = .ok (.aload_n 0, 1) := by decide +kernel
theorem d_Y_soonest_54 : decode b_Y_soonest 54 = .ok (.getfield 64, 3) := by decide +kernel
theorem d_Y_soonest_57 : decode b_Y_soonest 57 = .ok (.iload_n 3, 1) := by decide +kernel
theorem d_Y_soonest_58 : decode b_Y_soonest 58 = .ok (.iaload, 1) := by decide +kernel
theorem d_Y_soonest_59 : decode b_Y_soonest 59 = .ok (.iconst (-1), 1) := by decide +kernel
theorem d_Y_soonest_60 : decode b_Y_soonest 60 = .ok (.if_icmp .eq 20, 3) := by decide +kernel
theorem d_Y_soonest_63 : decode b_Y_soonest 63 = .ok (.lload_n 1, 1) := by decide +kernel
theorem d_Y_soonest_64 : decode b_Y_soonest 64 = .ok (.aload_n 0, 1) := by decide +kernel
theorem d_Y_soonest_65 : decode b_Y_soonest 65 = .ok (.getfield 64, 3) := by decide +kernel
theorem d_Y_soonest_68 : decode b_Y_soonest 68 = .ok (.iload_n 3, 1) := by decide +kernel
theorem d_Y_soonest_69 : decode b_Y_soonest 69 = .ok (.iaload, 1) := by decide +kernel
theorem d_Y_soonest_70 : decode b_Y_soonest 70 = .ok (.aload_n 0, 1) := by decide +kernel
theorem d_Y_soonest_71 : decode b_Y_soonest 71 = .ok (.getfield 67, 3) := by decide +kernel
theorem d_Y_soonest_74 : decode b_Y_soonest 74 = .ok (.iload_n 3, 1) := by decide +kernel
theorem d_Y_soonest_75 : decode b_Y_soonest 75 = .ok (.iaload, 1) := by decide +kernel
theorem d_Y_soonest_76 : decode b_Y_soonest 76 = .ok (.invokestatic 217, 3) := by decide +kernel
theorem d_Y_soonest_79 : decode b_Y_soonest 79 = .ok (.lstore_n 1, 1) := by decide +kernel
theorem d_Y_soonest_80 : decode b_Y_soonest 80 = .ok (.aload_n 0, 1) := by decide +kernel
theorem d_Y_soonest_81 : decode b_Y_soonest 81 = .ok (.getfield 70, 3) := by decide +kernel
theorem d_Y_soonest_84 : decode b_Y_soonest 84 = .ok (.iload_n 3, 1) := by decide +kernel
theorem d_Y_soonest_85 : decode b_Y_soonest 85 = .ok (.iaload, 1) := by decide +kernel
theorem d_Y_soonest_86 : decode b_Y_soonest 86 = .ok (.iconst (-1), 1) := by decide +kernel
theorem d_Y_soonest_87 : decode b_Y_soonest 87 = .ok (.if_icmp .eq 20, 3) := by decide +kernel
theorem d_Y_soonest_90 : decode b_Y_soonest 90 = .ok (.lload_n 1, 1) := by decide +kernel
theorem d_Y_soonest_91 : decode b_Y_soonest 91 = .ok (.aload_n 0, 1) := by decide +kernel
theorem d_Y_soonest_92 : decode b_Y_soonest 92 = .ok (.getfield 70, 3) := by decide +kernel
theorem d_Y_soonest_95 : decode b_Y_soonest 95 = .ok (.iload_n 3, 1) := by decide +kernel
theorem d_Y_soonest_96 : decode b_Y_soonest 96 = .ok (.iaload, 1) := by decide +kernel
theorem d_Y_soonest_97 : decode b_Y_soonest 97 = .ok (.aload_n 0, 1) := by decide +kernel
theorem d_Y_soonest_98 : decode b_Y_soonest 98 = .ok (.getfield 73, 3) := by decide +kernel
theorem d_Y_soonest_101 : decode b_Y_soonest 101 = .ok (.iload_n 3, 1) := by decide +kernel
theorem d_Y_soonest_102 : decode b_Y_soonest 102 = .ok (.iaload, 1) := by decide +kernel
theorem d_Y_soonest_103 : decode b_Y_soonest 103 = .ok (.invokestatic 217, 3) := by decide +kernel
theorem d_Y_soonest_106 : decode b_Y_soonest 106 = .ok (.lstore_n 1, 1) := by decide +kernel
theorem d_Y_soonest_107 : decode b_Y_soonest 107 = .ok (.iinc 3 1, 3) := by decide +kernel
theorem d_Y_soonest_110 : decode b_Y_soonest 110 = .ok (.goto (-65), 3) := by decide +kernel
theorem d_Y_soonest_113 : decode b_Y_soonest 113 = .ok (.lload_n 1, 1) := by decide +kernel
theorem d_Y_soonest_114 : decode b_Y_soonest 114 = .ok (.lreturn, 1) := by decide +kernel
theorem d_Y_moved_0 : decode b_Y_moved 0 = .ok (.aload_n 0, 1) := by decide +kernel
theorem d_Y_moved_1 : decode b_Y_moved 1 = .ok (.getfield 88, 3) := by decide +kernel
theorem d_Y_moved_4 : decode b_Y_moved 4 = .ok (.iload_n 1, 1) := by decide +kernel
theorem d_Y_moved_5 : decode b_Y_moved 5 = .ok (.baload, 1) := by decide +kernel
theorem d_Y_moved_6 : decode b_Y_moved 6 = .ok (.ifCond .eq 16, 3) := by decide +kernel
theorem d_Y_moved_9 : decode b_Y_moved 9 = .ok (.aload_n 0, 1) := by decide +kernel
theorem d_Y_moved_10 : decode b_Y_moved 10 = .ok (.getfield 85, 3) := by decide +kernel
theorem d_Y_moved_13 : decode b_Y_moved 13 = .ok (.iload_n 1, 1) := by decide +kernel
theorem d_Y_moved_14 : decode b_Y_moved 14 = .ok (.iaload, 1) := by decide +kernel
theorem d_Y_moved_15 : decode b_Y_moved 15 = .ok (.sipush 128, 3) := by decide +kernel
theorem d_Y_moved_18 : decode b_Y_moved 18 = .ok (.iadd, 1) := by decide +kernel
theorem d_Y_moved_19 : decode b_Y_moved 19 = .ok (.goto 9, 3) := by decide +kernel
theorem d_Y_moved_22 : decode b_Y_moved 22 = .ok (.aload_n 0, 1) := by decide +kernel
theorem d_Y_moved_23 : decode b_Y_moved 23 = .ok (.getfield 85, 3) := by decide +kernel
theorem d_Y_moved_26 : decode b_Y_moved 26 = .ok (.iload_n 1, 1) := by decide +kernel
theorem d_Y_moved_27 : decode b_Y_moved 27 = .ok (.iaload, 1) := by decide +kernel
theorem d_Y_moved_28 : decode b_Y_moved 28 = .ok (.istore_n 2, 1) := by decide +kernel
theorem d_Y_moved_29 : decode b_Y_moved 29 = .ok (.aload_n 0, 1) := by decide +kernel
theorem d_Y_moved_30 : decode b_Y_moved 30 = .ok (.getfield 92, 3) := by decide +kernel
theorem d_Y_moved_33 : decode b_Y_moved 33 = .ok (.iload_n 1, 1) := by decide +kernel
theorem d_Y_moved_34 : decode b_Y_moved 34 = .ok (.iaload, 1) := by decide +kernel
theorem d_Y_moved_35 : decode b_Y_moved 35 = .ok (.istore_n 3, 1) := by decide +kernel
theorem d_Y_moved_36 : decode b_Y_moved 36 = .ok (.aload_n 0, 1) := by decide +kernel
theorem d_Y_moved_37 : decode b_Y_moved 37 = .ok (.getfield 79, 3) := by decide +kernel
theorem d_Y_moved_40 : decode b_Y_moved 40 = .ok (.iload_n 1, 1) := by decide +kernel
theorem d_Y_moved_41 : decode b_Y_moved 41 = .ok (.iaload, 1) := by decide +kernel
theorem d_Y_moved_42 : decode b_Y_moved 42 = .ok (.iconst 3, 1) := by decide +kernel
theorem d_Y_moved_43 : decode b_Y_moved 43 = .ok (.if_icmp .ne 20, 3) := by decide +kernel
theorem d_Y_moved_46 : decode b_Y_moved 46 = .ok (.aload_n 0, 1) := by decide +kernel
theorem d_Y_moved_47 : decode b_Y_moved 47 = .ok (.iconst 3, 1) := by decide +kernel
theorem d_Y_moved_48 : decode b_Y_moved 48 = .ok (.aload_n 0, 1) := by decide +kernel
theorem d_Y_moved_49 : decode b_Y_moved 49 = .ok (.iload_n 3, 1) := by decide +kernel
theorem d_Y_moved_50 : decode b_Y_moved 50 = .ok (.invokevirtual 166, 3) := by decide +kernel
theorem d_Y_moved_53 : decode b_Y_moved 53 = .ok (.iload_n 2, 1) := by decide +kernel
theorem d_Y_moved_54 : decode b_Y_moved 54 = .ok (.invokevirtual 230, 3) := by decide +kernel
theorem d_Y_moved_57 : decode b_Y_moved 57 = .ok (.aload_n 0, 1) := by decide +kernel
theorem d_Y_moved_58 : decode b_Y_moved 58 = .ok (.iload_n 1, 1) := by decide +kernel
theorem d_Y_moved_59 : decode b_Y_moved 59 = .ok (.invokevirtual 237, 3) := by decide +kernel
theorem d_Y_moved_62 : decode b_Y_moved 62 = .ok (.return_, 1) := by decide +kernel
theorem d_Y_moved_63 : decode b_Y_moved 63 = .ok (.aload_n 0, 1) := by decide +kernel
theorem d_Y_moved_64 : decode b_Y_moved 64 = .ok (.iconst 2, 1) := by decide +kernel
theorem d_Y_moved_65 : decode b_Y_moved 65 = .ok (.iload_n 3, 1) := by decide +kernel
theorem d_Y_moved_66 : decode b_Y_moved 66 = .ok (.iload_n 2, 1) := by decide +kernel
theorem d_Y_moved_67 : decode b_Y_moved 67 = .ok (.invokevirtual 230, 3) := by decide +kernel
theorem d_Y_moved_70 : decode b_Y_moved 70 = .ok (.aload_n 0, 1) := by decide +kernel
theorem d_Y_moved_71 : decode b_Y_moved 71 = .ok (.getfield 79, 3) := by decide +kernel
theorem d_Y_moved_74 : decode b_Y_moved 74 = .ok (.iload_n 1, 1) := by decide +kernel
theorem d_Y_moved_75 : decode b_Y_moved 75 = .ok (.iconst 3, 1) := by decide +kernel
theorem d_Y_moved_76 : decode b_Y_moved 76 = .ok (.iastore, 1) := by decide +kernel
theorem d_Y_moved_77 : decode b_Y_moved 77 = .ok (.aload_n 0, 1) := by decide +kernel
theorem d_Y_moved_78 : decode b_Y_moved 78 = .ok (.getfield 95, 3) := by decide +kernel
theorem d_Y_moved_81 : decode b_Y_moved 81 = .ok (.iload_n 1, 1) := by decide +kernel
theorem d_Y_moved_82 : decode b_Y_moved 82 = .ok (.aload_n 0, 1) := by decide +kernel
theorem d_Y_moved_83 : decode b_Y_moved 83 = .ok (.getfield 128, 3) := by decide +kernel
theorem d_Y_moved_86 : decode b_Y_moved 86 = .ok (.aload_n 0, 1) := by decide +kernel
theorem d_Y_moved_87 : decode b_Y_moved 87 = .ok (.getfield 22, 3) := by decide +kernel
theorem d_Y_moved_90 : decode b_Y_moved 90 = .ok (.iload_n 3, 1) := by decide +kernel
theorem d_Y_moved_91 : decode b_Y_moved 91 = .ok (.iconst 2, 1) := by decide +kernel
theorem d_Y_moved_92 : decode b_Y_moved 92 = .ok (.idiv, 1) := by decide +kernel
theorem d_Y_moved_93 : decode b_Y_moved 93 = .ok (.iaload, 1) := by decide +kernel
theorem d_Y_moved_94 : decode b_Y_moved 94 = .ok (.iadd, 1) := by decide +kernel
theorem d_Y_moved_95 : decode b_Y_moved 95 = .ok (.iastore, 1) := by decide +kernel
theorem d_Y_moved_96 : decode b_Y_moved 96 = .ok (.aload_n 0, 1) := by decide +kernel
theorem d_Y_moved_97 : decode b_Y_moved 97 = .ok (.getfield 98, 3) := by decide +kernel
theorem d_Y_moved_100 : decode b_Y_moved 100 = .ok (.iload_n 1, 1) := by decide +kernel
theorem d_Y_moved_101 : decode b_Y_moved 101 = .ok (.aload_n 0, 1) := by decide +kernel
theorem d_Y_moved_102 : decode b_Y_moved 102 = .ok (.dup, 1) := by decide +kernel
theorem d_Y_moved_103 : decode b_Y_moved 103 = .ok (.getfield 131, 3) := by decide +kernel
theorem d_Y_moved_106 : decode b_Y_moved 106 = .ok (.iconst 1, 1) := by decide +kernel
theorem d_Y_moved_107 : decode b_Y_moved 107 = .ok (.iadd, 1) := by decide +kernel
theorem d_Y_moved_108 : decode b_Y_moved 108 = .ok (.dup_x1, 1) := by decide +kernel
theorem d_Y_moved_109 : decode b_Y_moved 109 = .ok (.putfield 131, 3) := by decide +kernel
theorem d_Y_moved_112 : decode b_Y_moved 112 = .ok (.iastore, 1) := by decide +kernel
theorem d_Y_moved_113 : decode b_Y_moved 113 = .ok (.aload_n 0, 1) := by decide +kernel
theorem d_Y_moved_114 : decode b_Y_moved 114 = .ok (.iload_n 3, 1) := by decide +kernel
theorem d_Y_moved_115 : decode b_Y_moved 115 = .ok (.iconst (-1), 1) := by decide +kernel
theorem d_Y_moved_116 : decode b_Y_moved 116 = .ok (.invokevirtual 179, 3) := by decide +kernel
theorem d_Y_moved_119 : decode b_Y_moved 119 = .ok (.ifCond .le 8, 3) := by decide +kernel
theorem d_Y_moved_122 : decode b_Y_moved 122 = .ok (.aload_n 0, 1) := by decide +kernel
theorem d_Y_moved_123 : decode b_Y_moved 123 = .ok (.iload_n 3, 1) := by decide +kernel
theorem d_Y_moved_124 : decode b_Y_moved 124 = .ok (.invokevirtual 189, 3) := by decide +kernel
theorem d_Y_moved_127 : decode b_Y_moved 127 = .ok (.return_, 1) := by decide +kernel
theorem d_Y_step_0 : decode b_Y_step 0 = .ok (.aload_n 0, 1) := by decide +kernel
theorem d_Y_step_1 : decode b_Y_step 1 = .ok (.invokevirtual 223, 3) := by decide +kernel
theorem d_Y_step_4 : decode b_Y_step 4 = .ok (.aload_n 0, 1) := by decide +kernel
theorem d_Y_step_5 : decode b_Y_step 5 = .ok (.invokevirtual 226, 3) := by decide +kernel
theorem d_Y_step_8 : decode b_Y_step 8 = .ok (.lstore_n 1, 1) := by decide +kernel
theorem d_Y_step_9 : decode b_Y_step 9 = .ok (.lload_n 1, 1) := by decide +kernel
theorem d_Y_step_10 : decode b_Y_step 10 = .ok (.lconst 0, 1) := by decide +kernel
theorem d_Y_step_11 : decode b_Y_step 11 = .ok (.lcmp, 1) := by decide +kernel
theorem d_Y_step_12 : decode b_Y_step 12 = .ok (.ifCond .ne 5, 3) := by decide +kernel
theorem d_Y_step_15 : decode b_Y_step 15 = .ok (.iconst 0, 1) := by decide +kernel
theorem d_Y_step_16 : decode b_Y_step 16 = .ok (.ireturn, 1) := by decide +kernel
theorem d_Y_step_17 : decode b_Y_step 17 = .ok (.lload_n 1, 1) := by decide +kernel
theorem d_Y_step_18 : decode b_Y_step 18 = .ok (.ldc2_w 221, 3) := by decide +kernel
theorem d_Y_step_21 : decode b_Y_step 21 = .ok (.lrem, 1) := by decide +kernel
theorem d_Y_step_22 : decode b_Y_step 22 = .ok (.l2i, 1) := by decide +kernel
theorem d_Y_step_23 : decode b_Y_step 23 = .ok (.istore_n 3, 1) := by decide +kernel
theorem d_Y_step_24 : decode b_Y_step 24 = .ok (.aload_n 0, 1) := by decide +kernel
theorem d_Y_step_25 : decode b_Y_step 25 = .ok (.lload_n 1, 1) := by decide +kernel
theorem d_Y_step_26 : decode b_Y_step 26 = .ok (.ldc2_w 221, 3) := by decide +kernel
theorem d_Y_step_29 : decode b_Y_step 29 = .ok (.ldiv, 1) := by decide +kernel
theorem d_Y_step_30 : decode b_Y_step 30 = .ok (.l2i, 1) := by decide +kernel
theorem d_Y_step_31 : decode b_Y_step 31 = .ok (.putfield 128, 3) := by decide +kernel
theorem d_Y_step_34 : decode b_Y_step 34 = .ok (.iconst 0, 1) := by decide +kernel
theorem d_Y_step_35 : decode b_Y_step 35 = .ok (.istore 4, 2) := by decide +kernel
theorem d_Y_step_37 : decode b_Y_step 37 = .ok (.iload 4, 2) := by decide +kernel
theorem d_Y_step_39 : decode b_Y_step 39 = .ok (.aload_n 0, 1) := by decide +kernel
theorem d_Y_step_40 : decode b_Y_step 40 = .ok (.getfield 121, 3) := by decide +kernel
theorem d_Y_step_43 : decode b_Y_step 43 = .ok (.if_icmp .ge 142, 3) := by decide +kernel
theorem d_Y_step_46 : decode b_Y_step 46 = .ok (.aload_n 0, 1) := by decide +kernel
theorem d_Y_step_47 : decode b_Y_step 47 = .ok (.getfield 64, 3) := by decide +kernel
theorem d_Y_step_50 : decode b_Y_step 50 = .ok (.iload 4, 2) := by decide +kernel
theorem d_Y_step_52 : decode b_Y_step 52 = .ok (.iaload, 1) := by decide +kernel
theorem d_Y_step_53 : decode b_Y_step 53 = .ok (.iconst (-1), 1) := by decide +kernel
theorem d_Y_step_54 : decode b_Y_step 54 = .ok (.if_icmp .eq 44, 3) := by decide +kernel
theorem d_Y_step_57 : decode b_Y_step 57 = .ok (.aload_n 0, 1) := by decide +kernel
theorem d_Y_step_58 : decode b_Y_step 58 = .ok (.getfield 67, 3) := by decide +kernel
theorem d_Y_step_61 : decode b_Y_step 61 = .ok (.iload 4, 2) := by decide +kernel
theorem d_Y_step_63 : decode b_Y_step 63 = .ok (.iaload, 1) := by decide +kernel
theorem d_Y_step_64 : decode b_Y_step 64 = .ok (.iload_n 3, 1) := by decide +kernel
theorem d_Y_step_65 : decode b_Y_step 65 = .ok (.if_icmp .ne 33, 3) := by decide +kernel
theorem d_Y_step_68 : decode b_Y_step 68 = .ok (.aload_n 0, 1) := by decide +kernel
theorem d_Y_step_69 : decode b_Y_step 69 = .ok (.getfield 64, 3) := by decide +kernel
theorem d_Y_step_72 : decode b_Y_step 72 = .ok (.iload 4, 2) := by decide +kernel
theorem d_Y_step_74 : decode b_Y_step 74 = .ok (.iconst (-1), 1) := by decide +kernel
theorem d_Y_step_75 : decode b_Y_step 75 = .ok (.iastore, 1) := by decide +kernel
theorem d_Y_step_76 : decode b_Y_step 76 = .ok (.aload_n 0, 1) := by decide +kernel
theorem d_Y_step_77 : decode b_Y_step 77 = .ok (.iconst 1, 1) := by decide +kernel
theorem d_Y_step_78 : decode b_Y_step 78 = .ok (.iload 4, 2) := by decide +kernel
theorem d_Y_step_80 : decode b_Y_step 80 = .ok (.aload_n 0, 1) := by decide +kernel
theorem d_Y_step_81 : decode b_Y_step 81 = .ok (.getfield 58, 3) := by decide +kernel
theorem d_Y_step_84 : decode b_Y_step 84 = .ok (.iload 4, 2) := by decide +kernel
theorem d_Y_step_86 : decode b_Y_step 86 = .ok (.iaload, 1) := by decide +kernel
theorem d_Y_step_87 : decode b_Y_step 87 = .ok (.invokevirtual 230, 3) := by decide +kernel
theorem d_Y_step_90 : decode b_Y_step 90 = .ok (.aload_n 0, 1) := by decide +kernel
theorem d_Y_step_91 : decode b_Y_step 91 = .ok (.iload 4, 2) := by decide +kernel
theorem d_Y_step_93 : decode b_Y_step 93 = .ok (.invokevirtual 208, 3) := by decide +kernel
theorem d_Y_step_96 : decode b_Y_step 96 = .ok (.iconst 1, 1) := by decide +kernel
theorem d_Y_step_97 : decode b_Y_step 97 = .ok (.ireturn, 1) := by decide +kernel
theorem d_Y_step_98 : decode b_Y_step 98 = .ok (.aload_n 0, 1) := by decide +kernel
theorem d_Y_step_99 : decode b_Y_step 99 = .ok (.getfield 70, 3) := by decide +kernel
theorem d_Y_step_102 : decode b_Y_step 102 = .ok (.iload 4, 2) := by decide +kernel
theorem d_Y_step_104 : decode b_Y_step 104 = .ok (.iaload, 1) := by decide +kernel
theorem d_Y_step_105 : decode b_Y_step 105 = .ok (.iconst (-1), 1) := by decide +kernel
theorem d_Y_step_106 : decode b_Y_step 106 = .ok (.if_icmp .eq 73, 3) := by decide +kernel
theorem d_Y_step_109 : decode b_Y_step 109 = .ok (.aload_n 0, 1) := by decide +kernel
theorem d_Y_step_110 : decode b_Y_step 110 = .ok (.getfield 73, 3) := by decide +kernel
theorem d_Y_step_113 : decode b_Y_step 113 = .ok (.iload 4, 2) := by decide +kernel
theorem d_Y_step_115 : decode b_Y_step 115 = .ok (.iaload, 1) := by decide +kernel
theorem d_Y_step_116 : decode b_Y_step 116 = .ok (.iload_n 3, 1) := by decide +kernel
theorem d_Y_step_117 : decode b_Y_step 117 = .ok (.if_icmp .ne 62, 3) := by decide +kernel
theorem d_Y_step_120 : decode b_Y_step 120 = .ok (.aload_n 0, 1) := by decide +kernel
theorem d_Y_step_121 : decode b_Y_step 121 = .ok (.getfield 70, 3) := by decide +kernel
theorem d_Y_step_124 : decode b_Y_step 124 = .ok (.iload 4, 2) := by decide +kernel
theorem d_Y_step_126 : decode b_Y_step 126 = .ok (.iconst (-1), 1) := by decide +kernel
theorem d_Y_step_127 : decode b_Y_step 127 = .ok (.iastore, 1) := by decide +kernel
theorem d_Y_step_128 : decode b_Y_step 128 = .ok (.aload_n 0, 1) := by decide +kernel
theorem d_Y_step_129 : decode b_Y_step 129 = .ok (.getfield 76, 3) := by decide +kernel
theorem d_Y_step_132 : decode b_Y_step 132 = .ok (.iconst 4, 1) := by decide +kernel
theorem d_Y_step_133 : decode b_Y_step 133 = .ok (.iload 4, 2) := by decide +kernel
theorem d_Y_step_135 : decode b_Y_step 135 = .ok (.imul, 1) := by decide +kernel
theorem d_Y_step_136 : decode b_Y_step 136 = .ok (.iconst 3, 1) := by decide +kernel
theorem d_Y_step_137 : decode b_Y_step 137 = .ok (.iadd, 1) := by decide +kernel
theorem d_Y_step_138 : decode b_Y_step 138 = .ok (.dup2, 1) := by decide +kernel
theorem d_Y_step_139 : decode b_Y_step 139 = .ok (.iaload, 1) := by decide +kernel
theorem d_Y_step_140 : decode b_Y_step 140 = .ok (.iconst 1, 1) := by decide +kernel
theorem d_Y_step_141 : decode b_Y_step 141 = .ok (.iadd, 1) := by decide +kernel
theorem d_Y_step_142 : decode b_Y_step 142 = .ok (.iastore, 1) := by decide +kernel
theorem d_Y_step_143 : decode b_Y_step 143 = .ok (.aload_n 0, 1) := by decide +kernel
theorem d_Y_step_144 : decode b_Y_step 144 = .ok (.iconst 4, 1) := by decide +kernel
theorem d_Y_step_145 : decode b_Y_step 145 = .ok (.iload 4, 2) := by decide +kernel
theorem d_Y_step_147 : decode b_Y_step 147 = .ok (.aload_n 0, 1) := by decide +kernel
theorem d_Y_step_148 : decode b_Y_step 148 = .ok (.getfield 55, 3) := by decide +kernel
theorem d_Y_step_151 : decode b_Y_step 151 = .ok (.iload 4, 2) := by decide +kernel
theorem d_Y_step_153 : decode b_Y_step 153 = .ok (.iaload, 1) := by decide +kernel
theorem d_Y_step_154 : decode b_Y_step 154 = .ok (.invokevirtual 230, 3) := by decide +kernel
theorem d_Y_step_157 : decode b_Y_step 157 = .ok (.aload_n 0, 1) := by decide +kernel
theorem d_Y_step_158 : decode b_Y_step 158 = .ok (.getfield 58, 3) := by decide +kernel
theorem d_Y_step_161 : decode b_Y_step 161 = .ok (.iload 4, 2) := by decide +kernel
theorem d_Y_step_163 : decode b_Y_step 163 = .ok (.aload_n 0, 1) := by decide +kernel
theorem d_Y_step_164 : decode b_Y_step 164 = .ok (.getfield 55, 3) := by decide +kernel
theorem d_Y_step_167 : decode b_Y_step 167 = .ok (.iload 4, 2) := by decide +kernel
theorem d_Y_step_169 : decode b_Y_step 169 = .ok (.iaload, 1) := by decide +kernel
theorem d_Y_step_170 : decode b_Y_step 170 = .ok (.iastore, 1) := by decide +kernel
theorem d_Y_step_171 : decode b_Y_step 171 = .ok (.aload_n 0, 1) := by decide +kernel
theorem d_Y_step_172 : decode b_Y_step 172 = .ok (.iload 4, 2) := by decide +kernel
theorem d_Y_step_174 : decode b_Y_step 174 = .ok (.invokevirtual 208, 3) := by decide +kernel
theorem d_Y_step_177 : decode b_Y_step 177 = .ok (.iconst 1, 1) := by decide +kernel
theorem d_Y_step_178 : decode b_Y_step 178 = .ok (.ireturn, 1) := by decide +kernel
theorem d_Y_step_179 : decode b_Y_step 179 = .ok (.iinc 4 1, 3) := by decide +kernel
theorem d_Y_step_182 : decode b_Y_step 182 = .ok (.goto (-145), 3) := by decide +kernel
theorem d_Y_step_185 : decode b_Y_step 185 = .ok (.iconst 0, 1) := by decide +kernel
theorem d_Y_step_186 : decode b_Y_step 186 = .ok (.istore 4, 2) := by decide +kernel
theorem d_Y_step_188 : decode b_Y_step 188 = .ok (.iload 4, 2) := by decide +kernel
theorem d_Y_step_190 : decode b_Y_step 190 = .ok (.bipush 64, 2) := by decide +kernel
theorem d_Y_step_192 : decode b_Y_step 192 = .ok (.if_icmp .ge 39, 3) := by decide +kernel
theorem d_Y_step_195 : decode b_Y_step 195 = .ok (.aload_n 0, 1) := by decide +kernel
theorem d_Y_step_196 : decode b_Y_step 196 = .ok (.getfield 79, 3) := by decide +kernel
theorem d_Y_step_199 : decode b_Y_step 199 = .ok (.iload 4, 2) := by decide +kernel
theorem d_Y_step_201 : decode b_Y_step 201 = .ok (.iaload, 1) := by decide +kernel
theorem d_Y_step_202 : decode b_Y_step 202 = .ok (.iconst 2, 1) := by decide +kernel
theorem d_Y_step_203 : decode b_Y_step 203 = .ok (.if_icmp .lt 22, 3) := by decide +kernel
theorem d_Y_step_206 : decode b_Y_step 206 = .ok (.aload_n 0, 1) := by decide +kernel
theorem d_Y_step_207 : decode b_Y_step 207 = .ok (.getfield 98, 3) := by decide +kernel
theorem d_Y_step_210 : decode b_Y_step 210 = .ok (.iload 4, 2) := by decide +kernel
theorem d_Y_step_212 : decode b_Y_step 212 = .ok (.iaload, 1) := by decide +kernel
theorem d_Y_step_213 : decode b_Y_step 213 = .ok (.iload_n 3, 1) := by decide +kernel
theorem d_Y_step_214 : decode b_Y_step 214 = .ok (.if_icmp .ne 11, 3) := by decide +kernel
theorem d_Y_step_217 : decode b_Y_step 217 = .ok (.aload_n 0, 1) := by decide +kernel
theorem d_Y_step_218 : decode b_Y_step 218 = .ok (.iload 4, 2) := by decide +kernel
theorem d_Y_step_220 : decode b_Y_step 220 = .ok (.invokevirtual 234, 3) := by decide +kernel
theorem d_Y_step_223 : decode b_Y_step 223 = .ok (.iconst 1, 1) := by decide +kernel
theorem d_Y_step_224 : decode b_Y_step 224 = .ok (.ireturn, 1) := by decide +kernel
theorem d_Y_step_225 : decode b_Y_step 225 = .ok (.iinc 4 1, 3) := by decide +kernel
theorem d_Y_step_228 : decode b_Y_step 228 = .ok (.goto (-40), 3) := by decide +kernel
theorem d_Y_step_231 : decode b_Y_step 231 = .ok (.iconst 1, 1) := by decide +kernel
theorem d_Y_step_232 : decode b_Y_step 232 = .ok (.ireturn, 1) := by decide +kernel
theorem d_Y_run_0 : decode b_Y_run 0 = .ok (.iload_n 1, 1) := by decide +kernel
theorem d_Y_run_1 : decode b_Y_run 1 = .ok (.ifCond .lt 9, 3) := by decide +kernel
theorem d_Y_run_4 : decode b_Y_run 4 = .ok (.iload_n 1, 1) := by decide +kernel
theorem d_Y_run_5 : decode b_Y_run 5 = .ok (.bipush 50, 2) := by decide +kernel
theorem d_Y_run_7 : decode b_Y_run 7 = .ok (.if_icmp .le 5, 3) := by decide +kernel
theorem d_Y_run_10 : decode b_Y_run 10 = .ok (.iconst (-1), 1) := by decide +kernel
theorem d_Y_run_11 : decode b_Y_run 11 = .ok (.ireturn, 1) := by decide +kernel
theorem d_Y_run_12 : decode b_Y_run 12 = .ok (.iconst 0, 1) := by decide +kernel
theorem d_Y_run_13 : decode b_Y_run 13 = .ok (.istore_n 2, 1) := by decide +kernel
theorem d_Y_run_14 : decode b_Y_run 14 = .ok (.iload_n 2, 1) := by decide +kernel
theorem d_Y_run_15 : decode b_Y_run 15 = .ok (.iload_n 1, 1) := by decide +kernel
theorem d_Y_run_16 : decode b_Y_run 16 = .ok (.if_icmp .ge 16, 3) := by decide +kernel
theorem d_Y_run_19 : decode b_Y_run 19 = .ok (.aload_n 0, 1) := by decide +kernel
theorem d_Y_run_20 : decode b_Y_run 20 = .ok (.invokevirtual 240, 3) := by decide +kernel
theorem d_Y_run_23 : decode b_Y_run 23 = .ok (.ifCond .eq 9, 3) := by decide +kernel
theorem d_Y_run_26 : decode b_Y_run 26 = .ok (.iinc 2 1, 3) := by decide +kernel
theorem d_Y_run_29 : decode b_Y_run 29 = .ok (.goto (-15), 3) := by decide +kernel
theorem d_Y_run_32 : decode b_Y_run 32 = .ok (.iload_n 2, 1) := by decide +kernel
theorem d_Y_run_33 : decode b_Y_run 33 = .ok (.ireturn, 1) := by decide +kernel
theorem d_Y_now_0 : decode b_Y_now 0 = .ok (.aload_n 0, 1) := by decide +kernel
theorem d_Y_now_1 : decode b_Y_now 1 = .ok (.getfield 128, 3) := by decide +kernel
theorem d_Y_now_4 : decode b_Y_now 4 = .ok (.ireturn, 1) := by decide +kernel
theorem d_Y_trace_0 : decode b_Y_trace 0 = .ok (.iload_n 1, 1) := by decide +kernel
theorem d_Y_trace_1 : decode b_Y_trace 1 = .ok (.ifCond .lt 17, 3) := by decide +kernel
theorem d_Y_trace_4 : decode b_Y_trace 4 = .ok (.iload_n 1, 1) := by decide +kernel
theorem d_Y_trace_5 : decode b_Y_trace 5 = .ok (.bipush 15, 2) := by decide +kernel
theorem d_Y_trace_7 : decode b_Y_trace 7 = .ok (.if_icmp .gt 11, 3) := by decide +kernel
theorem d_Y_trace_10 : decode b_Y_trace 10 = .ok (.iload_n 1, 1) := by decide +kernel
theorem d_Y_trace_11 : decode b_Y_trace 11 = .ok (.aload_n 0, 1) := by decide +kernel
theorem d_Y_trace_12 : decode b_Y_trace 12 = .ok (.getfield 134, 3) := by decide +kernel
theorem d_Y_trace_15 : decode b_Y_trace 15 = .ok (.if_icmp .lt 9, 3) := by decide +kernel
theorem d_Y_trace_18 : decode b_Y_trace 18 = .ok (.ldc2_w 244, 3) := by decide +kernel
theorem d_Y_trace_21 : decode b_Y_trace 21 = .ok (.goto 19, 3) := by decide +kernel
theorem d_Y_trace_24 : decode b_Y_trace 24 = .ok (.aload_n 0, 1) := by decide +kernel
theorem d_Y_trace_25 : decode b_Y_trace 25 = .ok (.getfield 110, 3) := by decide +kernel
theorem d_Y_trace_28 : decode b_Y_trace 28 = .ok (.aload_n 0, 1) := by decide +kernel
theorem d_Y_trace_29 : decode b_Y_trace 29 = .ok (.getfield 134, 3) := by decide +kernel
theorem d_Y_trace_32 : decode b_Y_trace 32 = .ok (.iconst 1, 1) := by decide +kernel
theorem d_Y_trace_33 : decode b_Y_trace 33 = .ok (.isub, 1) := by decide +kernel
theorem d_Y_trace_34 : decode b_Y_trace 34 = .ok (.iload_n 1, 1) := by decide +kernel
theorem d_Y_trace_35 : decode b_Y_trace 35 = .ok (.isub, 1) := by decide +kernel
theorem d_Y_trace_36 : decode b_Y_trace 36 = .ok (.bipush 16, 2) := by decide +kernel
theorem d_Y_trace_38 : decode b_Y_trace 38 = .ok (.irem, 1) := by decide +kernel
theorem d_Y_trace_39 : decode b_Y_trace 39 = .ok (.laload, 1) := by decide +kernel
theorem d_Y_trace_40 : decode b_Y_trace 40 = .ok (.lreturn, 1) := by decide +kernel
theorem d_Y_waiting_0 : decode b_Y_waiting 0 = .ok (.aload_n 0, 1) := by decide +kernel
theorem d_Y_waiting_1 : decode b_Y_waiting 1 = .ok (.iload_n 1, 1) := by decide +kernel
theorem d_Y_waiting_2 : decode b_Y_waiting 2 = .ok (.invokevirtual 148, 3) := by decide +kernel
theorem d_Y_waiting_5 : decode b_Y_waiting 5 = .ok (.ifCond .eq 16, 3) := by decide +kernel
theorem d_Y_waiting_8 : decode b_Y_waiting 8 = .ok (.iload_n 2, 1) := by decide +kernel
theorem d_Y_waiting_9 : decode b_Y_waiting 9 = .ok (.iconst (-1), 1) := by decide +kernel
theorem d_Y_waiting_10 : decode b_Y_waiting 10 = .ok (.if_icmp .eq 15, 3) := by decide +kernel
theorem d_Y_waiting_13 : decode b_Y_waiting 13 = .ok (.aload_n 0, 1) := by decide +kernel
theorem d_Y_waiting_14 : decode b_Y_waiting 14 = .ok (.iload_n 2, 1) := by decide +kernel
theorem d_Y_waiting_15 : decode b_Y_waiting 15 = .ok (.invokevirtual 151, 3) := by decide +kernel
theorem d_Y_waiting_18 : decode b_Y_waiting 18 = .ok (.ifCond .ne 7, 3) := by decide +kernel
theorem d_Y_waiting_21 : decode b_Y_waiting 21 = .ok (.iconst (-1), 1) := by decide +kernel
theorem d_Y_waiting_22 : decode b_Y_waiting 22 = .ok (.goto 9, 3) := by decide +kernel
theorem d_Y_waiting_25 : decode b_Y_waiting 25 = .ok (.aload_n 0, 1) := by decide +kernel
theorem d_Y_waiting_26 : decode b_Y_waiting 26 = .ok (.iload_n 1, 1) := by decide +kernel
theorem d_Y_waiting_27 : decode b_Y_waiting 27 = .ok (.iload_n 2, 1) := by decide +kernel
theorem d_Y_waiting_28 : decode b_Y_waiting 28 = .ok (.invokevirtual 179, 3) := by decide +kernel
theorem d_Y_waiting_31 : decode b_Y_waiting 31 = .ok (.ireturn, 1) := by decide +kernel
theorem d_Y_deficit_0 : decode b_Y_deficit 0 = .ok (.aload_n 0, 1) := by decide +kernel
theorem d_Y_deficit_1 : decode b_Y_deficit 1 = .ok (.iload_n 1, 1) := by decide +kernel
theorem d_Y_deficit_2 : decode b_Y_deficit 2 = .ok (.invokevirtual 148, 3) := by decide +kernel
theorem d_Y_deficit_5 : decode b_Y_deficit 5 = .ok (.ifCond .eq 11, 3) := by decide +kernel
theorem d_Y_deficit_8 : decode b_Y_deficit 8 = .ok (.aload_n 0, 1) := by decide +kernel
theorem d_Y_deficit_9 : decode b_Y_deficit 9 = .ok (.iload_n 2, 1) := by decide +kernel
theorem d_Y_deficit_10 : decode b_Y_deficit 10 = .ok (.invokevirtual 151, 3) := by decide +kernel
theorem d_Y_deficit_13 : decode b_Y_deficit 13 = .ok (.ifCond .ne 5, 3) := by decide +kernel
theorem d_Y_deficit_16 : decode b_Y_deficit 16 = .ok (.iconst (-1), 1) := by decide +kernel
theorem d_Y_deficit_17 : decode b_Y_deficit 17 = .ok (.ireturn, 1) := by decide +kernel
theorem d_Y_deficit_18 : decode b_Y_deficit 18 = .ok (.aload_n 0, 1) := by decide +kernel
theorem d_Y_deficit_19 : decode b_Y_deficit 19 = .ok (.iload_n 1, 1) := by decide +kernel
theorem d_Y_deficit_20 : decode b_Y_deficit 20 = .ok (.iload_n 2, 1) := by decide +kernel
theorem d_Y_deficit_21 : decode b_Y_deficit 21 = .ok (.invokevirtual 179, 3) := by decide +kernel
theorem d_Y_deficit_24 : decode b_Y_deficit 24 = .ok (.ifCond .ne 7, 3) := by decide +kernel
theorem d_Y_deficit_27 : decode b_Y_deficit 27 = .ok (.iconst 0, 1) := by decide +kernel
theorem d_Y_deficit_28 : decode b_Y_deficit 28 = .ok (.goto 14, 3) := by decide +kernel
theorem d_Y_deficit_31 : decode b_Y_deficit 31 = .ok (.aload_n 0, 1) := by decide +kernel
theorem d_Y_deficit_32 : decode b_Y_deficit 32 = .ok (.getfield 104, 3) := by decide +kernel
theorem d_Y_deficit_35 : decode b_Y_deficit 35 = .ok (.bipush 6, 2) := by decide +kernel
theorem d_Y_deficit_37 : decode b_Y_deficit 37 = .ok (.iload_n 1, 1) := by decide +kernel
theorem d_Y_deficit_38 : decode b_Y_deficit 38 = .ok (.imul, 1) := by decide +kernel
theorem d_Y_deficit_39 : decode b_Y_deficit 39 = .ok (.iload_n 2, 1) := by decide +kernel
theorem d_Y_deficit_40 : decode b_Y_deficit 40 = .ok (.iadd, 1) := by decide +kernel
theorem d_Y_deficit_41 : decode b_Y_deficit 41 = .ok (.iaload, 1) := by decide +kernel
theorem d_Y_deficit_42 : decode b_Y_deficit 42 = .ok (.ireturn, 1) := by decide +kernel
theorem d_Y_onPort_0 : decode b_Y_onPort 0 = .ok (.aload_n 0, 1) := by decide +kernel
theorem d_Y_onPort_1 : decode b_Y_onPort 1 = .ok (.iload_n 1, 1) := by decide +kernel
theorem d_Y_onPort_2 : decode b_Y_onPort 2 = .ok (.invokevirtual 148, 3) := by decide +kernel
theorem d_Y_onPort_5 : decode b_Y_onPort 5 = .ok (.ifCond .eq 11, 3) := by decide +kernel
theorem d_Y_onPort_8 : decode b_Y_onPort 8 = .ok (.aload_n 0, 1) := by decide +kernel
theorem d_Y_onPort_9 : decode b_Y_onPort 9 = .ok (.iload_n 1, 1) := by decide +kernel
theorem d_Y_onPort_10 : decode b_Y_onPort 10 = .ok (.invokevirtual 186, 3) := by decide +kernel
theorem d_Y_onPort_13 : decode b_Y_onPort 13 = .ok (.goto 4, 3) := by decide +kernel
theorem d_Y_onPort_16 : decode b_Y_onPort 16 = .ok (.iconst (-1), 1) := by decide +kernel
theorem d_Y_onPort_17 : decode b_Y_onPort 17 = .ok (.istore_n 2, 1) := by decide +kernel
theorem d_Y_onPort_18 : decode b_Y_onPort 18 = .ok (.iload_n 2, 1) := by decide +kernel
theorem d_Y_onPort_19 : decode b_Y_onPort 19 = .ok (.iconst (-1), 1) := by decide +kernel
theorem d_Y_onPort_20 : decode b_Y_onPort 20 = .ok (.if_icmp .ne 7, 3) := by decide +kernel
theorem d_Y_onPort_23 : decode b_Y_onPort 23 = .ok (.iconst (-1), 1) := by decide +kernel
theorem d_Y_onPort_24 : decode b_Y_onPort 24 = .ok (.goto 37, 3) := by decide +kernel
theorem d_Y_onPort_27 : decode b_Y_onPort 27 = .ok (.sipush 256, 3) := by decide +kernel
theorem d_Y_onPort_30 : decode b_Y_onPort 30 = .ok (.aload_n 0, 1) := by decide +kernel
theorem d_Y_onPort_31 : decode b_Y_onPort 31 = .ok (.getfield 82, 3) := by decide +kernel
theorem d_Y_onPort_34 : decode b_Y_onPort 34 = .ok (.iload_n 2, 1) := by decide +kernel
theorem d_Y_onPort_35 : decode b_Y_onPort 35 = .ok (.iaload, 1) := by decide +kernel
theorem d_Y_onPort_36 : decode b_Y_onPort 36 = .ok (.imul, 1) := by decide +kernel
theorem d_Y_onPort_37 : decode b_Y_onPort 37 = .ok (.aload_n 0, 1) := by decide +kernel
theorem d_Y_onPort_38 : decode b_Y_onPort 38 = .ok (.getfield 85, 3) := by decide +kernel
theorem d_Y_onPort_41 : decode b_Y_onPort 41 = .ok (.iload_n 2, 1) := by decide +kernel
theorem d_Y_onPort_42 : decode b_Y_onPort 42 = .ok (.iaload, 1) := by decide +kernel
theorem d_Y_onPort_43 : decode b_Y_onPort 43 = .ok (.iadd, 1) := by decide +kernel
theorem d_Y_onPort_44 : decode b_Y_onPort 44 = .ok (.aload_n 0, 1) := by decide +kernel
theorem d_Y_onPort_45 : decode b_Y_onPort 45 = .ok (.getfield 88, 3) := by decide +kernel
theorem d_Y_onPort_48 : decode b_Y_onPort 48 = .ok (.iload_n 2, 1) := by decide +kernel
theorem d_Y_onPort_49 : decode b_Y_onPort 49 = .ok (.baload, 1) := by decide +kernel
theorem d_Y_onPort_50 : decode b_Y_onPort 50 = .ok (.ifCond .eq 9, 3) := by decide +kernel
theorem d_Y_onPort_53 : decode b_Y_onPort 53 = .ok (.sipush 128, 3) := by decide +kernel
theorem d_Y_onPort_56 : decode b_Y_onPort 56 = .ok (.goto 4, 3) := by decide +kernel
theorem d_Y_onPort_59 : decode b_Y_onPort 59 = .ok (.iconst 0, 1) := by decide +kernel
theorem d_Y_onPort_60 : decode b_Y_onPort 60 = .ok (.iadd, 1) := by decide +kernel
theorem d_Y_onPort_61 : decode b_Y_onPort 61 = .ok (.ireturn, 1) := by decide +kernel
theorem d_Y_timer_0 : decode b_Y_timer 0 = .ok (.aload_n 0, 1) := by decide +kernel
theorem d_Y_timer_1 : decode b_Y_timer 1 = .ok (.iload_n 1, 1) := by decide +kernel
theorem d_Y_timer_2 : decode b_Y_timer 2 = .ok (.invokevirtual 151, 3) := by decide +kernel
theorem d_Y_timer_5 : decode b_Y_timer 5 = .ok (.ifCond .eq 12, 3) := by decide +kernel
theorem d_Y_timer_8 : decode b_Y_timer 8 = .ok (.aload_n 0, 1) := by decide +kernel
theorem d_Y_timer_9 : decode b_Y_timer 9 = .ok (.getfield 70, 3) := by decide +kernel
theorem d_Y_timer_12 : decode b_Y_timer 12 = .ok (.iload_n 1, 1) := by decide +kernel
theorem d_Y_timer_13 : decode b_Y_timer 13 = .ok (.iaload, 1) := by decide +kernel
theorem d_Y_timer_14 : decode b_Y_timer 14 = .ok (.goto 4, 3) := by decide +kernel
theorem d_Y_timer_17 : decode b_Y_timer 17 = .ok (.iconst (-1), 1) := by decide +kernel
theorem d_Y_timer_18 : decode b_Y_timer 18 = .ok (.ireturn, 1) := by decide +kernel
theorem d_Y_count_0 : decode b_Y_count 0 = .ok (.aload_n 0, 1) := by decide +kernel
theorem d_Y_count_1 : decode b_Y_count 1 = .ok (.iload_n 1, 1) := by decide +kernel
theorem d_Y_count_2 : decode b_Y_count 2 = .ok (.invokevirtual 151, 3) := by decide +kernel
theorem d_Y_count_5 : decode b_Y_count 5 = .ok (.ifCond .eq 13, 3) := by decide +kernel
theorem d_Y_count_8 : decode b_Y_count 8 = .ok (.iload_n 2, 1) := by decide +kernel
theorem d_Y_count_9 : decode b_Y_count 9 = .ok (.ifCond .lt 9, 3) := by decide +kernel
theorem d_Y_count_12 : decode b_Y_count 12 = .ok (.iload_n 2, 1) := by decide +kernel
theorem d_Y_count_13 : decode b_Y_count 13 = .ok (.bipush 6, 2) := by decide +kernel
theorem d_Y_count_15 : decode b_Y_count 15 = .ok (.if_icmp .le 5, 3) := by decide +kernel
theorem d_Y_count_18 : decode b_Y_count 18 = .ok (.iconst (-1), 1) := by decide +kernel
theorem d_Y_count_19 : decode b_Y_count 19 = .ok (.ireturn, 1) := by decide +kernel
theorem d_Y_count_20 : decode b_Y_count 20 = .ok (.iload_n 2, 1) := by decide +kernel
theorem d_Y_count_21 : decode b_Y_count 21 = .ok (.iconst 3, 1) := by decide +kernel
theorem d_Y_count_22 : decode b_Y_count 22 = .ok (.if_icmp .ge 37, 3) := by decide +kernel
theorem d_Y_count_25 : decode b_Y_count 25 = .ok (.iload_n 2, 1) := by decide +kernel
theorem d_Y_count_26 : decode b_Y_count 26 = .ok (.ifCond .ne 12, 3) := by decide +kernel
theorem d_Y_count_29 : decode b_Y_count 29 = .ok (.aload_n 0, 1) := by decide +kernel
theorem d_Y_count_30 : decode b_Y_count 30 = .ok (.getfield 55, 3) := by decide +kernel
theorem d_Y_count_33 : decode b_Y_count 33 = .ok (.iload_n 1, 1) := by decide +kernel
theorem d_Y_count_34 : decode b_Y_count 34 = .ok (.iaload, 1) := by decide +kernel
theorem d_Y_count_35 : decode b_Y_count 35 = .ok (.goto 23, 3) := by decide +kernel
theorem d_Y_count_38 : decode b_Y_count 38 = .ok (.iload_n 2, 1) := by decide +kernel
theorem d_Y_count_39 : decode b_Y_count 39 = .ok (.iconst 1, 1) := by decide +kernel
theorem d_Y_count_40 : decode b_Y_count 40 = .ok (.if_icmp .ne 12, 3) := by decide +kernel
theorem d_Y_count_43 : decode b_Y_count 43 = .ok (.aload_n 0, 1) := by decide +kernel
theorem d_Y_count_44 : decode b_Y_count 44 = .ok (.getfield 58, 3) := by decide +kernel
theorem d_Y_count_47 : decode b_Y_count 47 = .ok (.iload_n 1, 1) := by decide +kernel
theorem d_Y_count_48 : decode b_Y_count 48 = .ok (.iaload, 1) := by decide +kernel
theorem d_Y_count_49 : decode b_Y_count 49 = .ok (.goto 9, 3) := by decide +kernel
theorem d_Y_count_52 : decode b_Y_count 52 = .ok (.aload_n 0, 1) := by decide +kernel
theorem d_Y_count_53 : decode b_Y_count 53 = .ok (.getfield 61, 3) := by decide +kernel
theorem d_Y_count_56 : decode b_Y_count 56 = .ok (.iload_n 1, 1) := by decide +kernel
theorem d_Y_count_57 : decode b_Y_count 57 = .ok (.iaload, 1) := by decide +kernel
theorem d_Y_count_58 : decode b_Y_count 58 = .ok (.ireturn, 1) := by decide +kernel
theorem d_Y_count_59 : decode b_Y_count 59 = .ok (.aload_n 0, 1) := by decide +kernel
theorem d_Y_count_60 : decode b_Y_count 60 = .ok (.getfield 76, 3) := by decide +kernel
theorem d_Y_count_63 : decode b_Y_count 63 = .ok (.iconst 4, 1) := by decide +kernel
theorem d_Y_count_64 : decode b_Y_count 64 = .ok (.iload_n 1, 1) := by decide +kernel
theorem d_Y_count_65 : decode b_Y_count 65 = .ok (.imul, 1) := by decide +kernel
theorem d_Y_count_66 : decode b_Y_count 66 = .ok (.iload_n 2, 1) := by decide +kernel
theorem d_Y_count_67 : decode b_Y_count 67 = .ok (.iadd, 1) := by decide +kernel
theorem d_Y_count_68 : decode b_Y_count 68 = .ok (.iconst 3, 1) := by decide +kernel
theorem d_Y_count_69 : decode b_Y_count 69 = .ok (.isub, 1) := by decide +kernel
theorem d_Y_count_70 : decode b_Y_count 70 = .ok (.iaload, 1) := by decide +kernel
theorem d_Y_count_71 : decode b_Y_count 71 = .ok (.ireturn, 1) := by decide +kernel
end
section
/-! ===== memory of one object graph: kind, index, slot; and one array of longs ===== -/
abbrev Mem : Type := (Nat → Nat → Nat → Int32) × (Nat → Int64)
def sR (z : Mem) (kc ki : Nat) (f : Nat → Int32) : Mem := (fun a b => if a = kc ∧ b = ki then f else z.1 a b, z.2)
def sL (z : Mem) (f : Nat → Int64) : Mem := (z.1, f)
def pI (z : Mem) (kc ki j : Nat) (v : Int32) : Mem := sR z kc ki (upd (z.1 kc ki) j v)
def pL (z : Mem) (j : Nat) (v : Int64) : Mem := sL z (vp_updL z.2 j v)
def aix (n : Nat) (x : Int32) : Option Nat := if x < 0 ∨ n ≤ x.toNatClampNeg then none else some x.toNatClampNeg
def bz (v : Int32) : Option Unit := if v = 0 ∨ v = 1 then some () else none
def acp (n : Nat) (sp dp ln : Int32) : Option Unit := if ¬ sp < 0 ∧ ¬ dp < 0 ∧ ¬ ln < 0 ∧ sp.toNatClampNeg + ln.toNatClampNeg ≤ n ∧ dp.toNatClampNeg + ln.toNatClampNeg ≤ n then some () else none
def cpI (z : Mem) (kc ki : Nat) (sp dp ln : Int32) : Mem := sR z kc ki (va_cpy (z.1 kc ki) (z.1 kc ki) sp.toNatClampNeg dp.toNatClampNeg ln.toNatClampNeg)
def cpL (z : Mem) (sp dp ln : Int32) : Mem := sL z (va_cpy z.2 z.2 sp.toNatClampNeg dp.toNatClampNeg ln.toNatClampNeg)
def stM {α : Type} (z : Mem) (f : Mem → Option α) : Option α := f z
def stV {α β : Type} (x : β) (f : β → Option α) : Option α := f x
def FU : Nat := 200
/-! ===== how 'den = some' is taken apart along a walk ===== -/
theorem bnd {α β : Type} {o : Option α} {f : α → Option β} {r : β} (h : o.bind f = some r) : ∃ v, o = some v ∧ f v = some r := by
  cases o with
  | none => cases h
  | some v => exact ⟨v, rfl, h⟩
theorem ite_t {α : Type} {c : Prop} {i : Decidable c} {a b r : α} (h : (@ite α c i a b) = r) (hc : c) : a = r := by rw [if_pos hc] at h; exact h
theorem ite_f {α : Type} {c : Prop} {i : Decidable c} {a b r : α} (h : (@ite α c i a b) = r) (hc : ¬ c) : b = r := by rw [if_neg hc] at h; exact h
theorem stM_n {α : Type} {x y : Mem} {f : Mem → Option α} {r : Option α} (h : stM x f = r) (e : y = x) : f y = r := by rw [e]; exact h
theorem stV_n {α β : Type} {x y : β} {f : β → Option α} {r : Option α} (h : stV x f = r) (e : y = x) : f y = r := by rw [e]; exact h
theorem aix_some {n : Nat} {x : Int32} {j : Nat} (h : aix n x = some j) : vp_in x n ∧ x.toNatClampNeg = j ∧ j < n := by
  unfold aix at h
  by_cases c : x < 0 ∨ n ≤ x.toNatClampNeg
  · rw [if_pos c] at h
    cases h
  · rw [if_neg c] at h
    cases h
    exact ⟨c, rfl, Nat.not_le.mp fun q => c (Or.inr q)⟩
theorem aix_lt {n : Nat} {x : Int32} {j : Nat} (h : aix n x = some j) : j < n := (aix_some h).2.2
theorem bz_some {v : Int32} {u : Unit} (h : bz v = some u) : v = 0 ∨ v = 1 := by
  unfold bz at h
  by_cases c : v = 0 ∨ v = 1
  · exact c
  · rw [if_neg c] at h
    cases h
theorem acp_some {n : Nat} {sp dp ln : Int32} {u : Unit} (h : acp n sp dp ln = some u) : ¬ sp < 0 ∧ ¬ dp < 0 ∧ ¬ ln < 0 ∧ sp.toNatClampNeg + ln.toNatClampNeg ≤ n ∧ dp.toNatClampNeg + ln.toNatClampNeg ≤ n := by
  unfold acp at h
  by_cases c : ¬ sp < 0 ∧ ¬ dp < 0 ∧ ¬ ln < 0 ∧ sp.toNatClampNeg + ln.toNatClampNeg ≤ n ∧ dp.toNatClampNeg + ln.toNatClampNeg ≤ n
  · exact c
  · rw [if_neg c] at h
    cases h
theorem bz_nar {v : Int32} (h : v = 0 ∨ v = 1) : narrow .boolean (.int v) = .int v := by rcases h with rfl | rfl <;> rfl
theorem bz_fit {v : Int32} (h : v = 0 ∨ v = 1) : fits .boolean (.int v) = true := by rcases h with rfl | rfl <;> rfl
theorem bz_vnar {v : Int32} (h : v = 0 ∨ v = 1) : vp_nar .boolean v = v := by rcases h with rfl | rfl <;> rfl
/-! ===== a layout: number of cells; kind and index of a place; place of a kind and index; a cell by kind, index, row, longs ===== -/
abbrev Ly : Type := Nat × (Nat → Nat) × (Nat → Nat) × (Nat → Nat → Nat) × ((Nat → ClassId) → Nat → Nat → Nat → (Nat → Int32) → (Nat → Int64) → va_E)
abbrev GG : Type := va_G × (Nat → ClassId)
def tysG (G : GG) : List (ClassId × FieldType) := [(G.2 0, .int), (G.2 1, .long), (G.2 2, .boolean), (G.2 3, .array .int), (G.2 4, .object "DeficitNet$Port"), (G.2 5, .object "DeficitNet$Flow"), (G.2 6, .object "DeficitNet$Packet")]
def cellL (L : Ly) (ar : Nat → ClassId) (b : Nat) (z : Mem) (k : Nat) : va_E := L.2.2.2.2 ar b (L.2.1 k) (L.2.2.1 k) (z.1 (L.2.1 k) (L.2.2.1 k)) z.2
def wl (L : Ly) (G : GG) (b : Nat) (z : Mem) : va_W := (List.range L.1).map fun k => (b + k, cellL L G.2 b z k)
def Wd (L : Ly) (G : GG) (b : Nat) (z : Mem) (H : Heap) : Prop := va_P G.1 cls6 (wl L G b z) H
def ad (L : Ly) (b kc ki : Nat) : Nat := b + L.2.2.2.1 kc ki
def rgL (L : Ly) (b : Nat) : Nat → Prop := fun q => b ≤ q ∧ q < b + L.1
def okL (L : Ly) (kc ki : Nat) : Prop := L.2.2.2.1 kc ki < L.1 ∧ L.2.1 (L.2.2.2.1 kc ki) = kc ∧ L.2.2.1 (L.2.2.2.1 kc ki) = ki ∧ ∀ k, k < L.1 → L.2.1 k = kc → L.2.2.1 k = ki → k = L.2.2.2.1 kc ki
/-- only the cells of kind kl hold longs, and there is one -/
def lnL (L : Ly) (kl : Nat) : Prop := okL L kl 0 ∧ (∀ k, k < L.1 → L.2.1 k = kl → L.2.2.1 k = 0) ∧ ∀ (ar : Nat → ClassId) (b kc ki : Nat) (f : Nat → Int32) (g g' : Nat → Int64), kc ≠ kl → L.2.2.2.2 ar b kc ki f g = L.2.2.2.2 ar b kc ki f g'
theorem sR_same (z : Mem) (kc ki : Nat) (f : Nat → Int32) : (sR z kc ki f).1 kc ki = f := by simp [sR]
theorem sR_other (z : Mem) {kc ki a b : Nat} (f : Nat → Int32) (h : ¬ (a = kc ∧ b = ki)) : (sR z kc ki f).1 a b = z.1 a b := by simp only [sR]; rw [if_neg h]
theorem wl_key {L : Ly} {G : GG} {b : Nat} {z : Mem} {k : Nat} {q : Nat × va_E} (h : (wl L G b z)[k]? = some q) : k < L.1 ∧ q = (b + k, cellL L G.2 b z k) := by
  unfold wl at h
  rw [List.getElem?_map] at h
  by_cases hk : k < L.1
  · rw [List.getElem?_range hk] at h
    cases h
    exact ⟨hk, rfl⟩
  · rw [List.getElem?_eq_none (by rw [List.length_range]; omega)] at h
    cases h
theorem wl_get {L : Ly} {G : GG} {b : Nat} {z : Mem} {k : Nat} (hk : k < L.1) : (wl L G b z)[k]? = some (b + k, cellL L G.2 b z k) := by
  unfold wl
  rw [List.getElem?_map, List.getElem?_range hk]
  rfl
theorem wl_none {L : Ly} {G : GG} {b : Nat} {z : Mem} {k : Nat} (hk : ¬ k < L.1) : (wl L G b z)[k]? = none := by
  unfold wl
  rw [List.getElem?_map, List.getElem?_eq_none (by rw [List.length_range]; omega)]
  rfl
theorem wl_at {L : Ly} {G : GG} {b : Nat} {z : Mem} {kc ki : Nat} (ho : okL L kc ki) : (wl L G b z)[L.2.2.2.1 kc ki]? = some (ad L b kc ki, L.2.2.2.2 G.2 b kc ki (z.1 kc ki) z.2) := by
  obtain ⟨h1, h2, h3, -⟩ := ho
  rw [wl_get h1]
  unfold cellL
  rw [h2, h3]
  rfl
theorem wl_D (L : Ly) (G : GG) (b : Nat) (z : Mem) : va_D (rgL L b) (wl L G b z) := by
  refine ⟨fun i j p q hi hj hpq => ?_, fun k q hk => ?_⟩
  · obtain ⟨-, rfl⟩ := wl_key hi
    obtain ⟨-, rfl⟩ := wl_key hj
    have h : b + i = b + j := hpq
    omega
  · obtain ⟨h, rfl⟩ := wl_key hk
    exact ⟨Nat.le_add_right _ _, Nat.add_lt_add_left h b⟩
theorem wl_len (L : Ly) (G : GG) (b : Nat) (z : Mem) : (wl L G b z).length = L.1 := by simp [wl]
theorem wl_set {L : Ly} {G : GG} {b : Nat} {z : Mem} {kc ki : Nat} (ho : okL L kc ki) (f : Nat → Int32) : (wl L G b z).set (L.2.2.2.1 kc ki) (ad L b kc ki, L.2.2.2.2 G.2 b kc ki f z.2) = wl L G b (sR z kc ki f) := by
  apply List.ext_getElem?
  intro k
  by_cases e : L.2.2.2.1 kc ki = k
  · subst e
    rw [wl_at ho, List.getElem?_set_self (by rw [wl_len]; exact ho.1), sR_same]
    rfl
  · rw [List.getElem?_set_ne e]
    by_cases hk : k < L.1
    · rw [wl_get hk, wl_get hk]
      have hn : ¬ (L.2.1 k = kc ∧ L.2.2.1 k = ki) := fun h => e (ho.2.2.2 k hk h.1 h.2).symm
      unfold cellL
      rw [sR_other z f hn]
      rfl
    · rw [wl_none hk, wl_none hk]
theorem wl_setL {L : Ly} {G : GG} {b : Nat} {z : Mem} {kl : Nat} (hl : lnL L kl) (f : Nat → Int64) : (wl L G b z).set (L.2.2.2.1 kl 0) (ad L b kl 0, L.2.2.2.2 G.2 b kl 0 (z.1 kl 0) f) = wl L G b (sL z f) := by
  obtain ⟨ho, h0, hd⟩ := hl
  apply List.ext_getElem?
  intro k
  by_cases e : L.2.2.2.1 kl 0 = k
  · subst e
    rw [wl_at ho, List.getElem?_set_self (by rw [wl_len]; exact ho.1)]
    rfl
  · rw [List.getElem?_set_ne e]
    by_cases hk : k < L.1
    · rw [wl_get hk, wl_get hk]
      have hn : L.2.1 k ≠ kl := fun h => e (ho.2.2.2 k hk h (h0 k hk h)).symm
      unfold cellL
      rw [hd G.2 b (L.2.1 k) (L.2.2.1 k) _ z.2 (sL z f).2 hn]
      rfl
    · rw [wl_none hk, wl_none hk]
theorem Wd.kept {L : Ly} {G : GG} {b : Nat} {z : Mem} {H H1 : Heap} (h : Wd L G b z H) (hk : ∀ q : Nat, q < H.size → ¬ False → H1[q]? = H[q]?) : Wd L G b z H1 :=
  va_P.kept h fun k q hq => hk q.1 (h k q hq).lt (fun x => x)
theorem Wd.apart {L : Ly} {G : GG} {b : Nat} {z : Mem} {H H1 : Heap} {A : Nat → Prop} (h : Wd L G b z H) (hk : ∀ q : Nat, q < H.size → ¬ A q → H1[q]? = H[q]?) (hA : ∀ q, rgL L b q → ¬ A q) : Wd L G b z H1 :=
  va_P.kept h fun k q hq => hk q.1 (h k q hq).lt (hA _ (by obtain ⟨h1, rfl⟩ := wl_key hq; exact ⟨Nat.le_add_right _ _, Nat.add_lt_add_left h1 b⟩))
/-! ===== what a method's walk stands on ===== -/
def Cx (y : MethodName) (cc : ByteArray) (nL : Nat) (ret : Option FieldType) (p : Program) (s : State) (m : MethodId) (args : Array Value) (meth : Method) (c : Code) (G : GG) : Prop :=
  p.tables.exec = Jvm.exec ∧ c.code = cc ∧ c.maxLocals = nL ∧ meth.sig.returnType = ret ∧ s.vm.findClass y.cls = some m.cls ∧ (∀ w ∈ wT, w.before args s = true) ∧ meth.locks = false ∧ va_K G.1 cls6 (tysG G) s
def wdP (L : Ly) (G : GG) (b : Nat) (z : Mem) (U : State) : Prop := Wd L G b z U.heap ∧ va_K G.1 cls6 (tysG G) U
/-- contracts: with an int, a long, nothing; and of a static method that reads no memory -/
abbrev QI (L : Ly) (G : GG) (b : Nat) (r0 : Int32) (z0 : Mem) : Array Value → State → Outcome → State → Prop := va_Qi (fun (r : Int32) (u : Mem) => r = r0 ∧ u = z0) (wdP L G b) (rgL L b)
abbrev QJ (L : Ly) (G : GG) (b : Nat) (r0 : Int64) (z0 : Mem) : Array Value → State → Outcome → State → Prop := va_Ql (fun (r : Int64) (u : Mem) => r = r0 ∧ u = z0) (wdP L G b) (rgL L b)
abbrev QV (L : Ly) (G : GG) (b : Nat) (z0 : Mem) : Array Value → State → Outcome → State → Prop := va_Qv (fun (u : Mem) => u = z0) (wdP L G b) (rgL L b)
abbrev QPI (r0 : Int32) : Array Value → State → Outcome → State → Prop := va_Qi (fun (r : Int32) (_ : Unit) => r = r0) (fun _ _ => True) (fun _ => False)
abbrev QPJ (r0 : Int64) : Array Value → State → Outcome → State → Prop := va_Ql (fun (r : Int64) (_ : Unit) => r = r0) (fun _ _ => True) (fun _ => False)
abbrev MtW (l : Launch) (y : MethodName) (bytes : ByteArray) (maxL : Nat) (ret : Option FieldType) (rm : Room) (L : Ly) (G : GG) (b : Nat) (As : List Value) (z : Mem) (Q : Array Value → State → Outcome → State → Prop) : Prop :=
  Met l y (Cond.code y bytes maxL ret :: wT) rm (va_Pc As (wdP L G b z)) Q 0 0 (rgL L b)
abbrev MtP (l : Launch) (y : MethodName) (bytes : ByteArray) (maxL : Nat) (ret : Option FieldType) (rm : Room) (As : List Value) (Q : Array Value → State → Outcome → State → Prop) : Prop :=
  Met l y (Cond.code y bytes maxL ret :: wT) rm (va_Pc As (fun _ => True)) Q 0 0 (fun _ => False)
theorem blindP {L : Ly} {G : GG} {b : Nat} {z : Mem} {As : List Value} : FrameBlind (va_Pc As (wdP L G b z)) := fun a U g mk q => ⟨q.1, q.2.1, va_K.moved (u := U) (U := U.calling g mk a) (Vm.Alike.refl U.vm) q.2.2⟩
theorem blindT {As : List Value} : FrameBlind (va_Pc As (fun _ => True)) := fun _ _ _ _ q => ⟨q.1, trivial⟩
theorem gT {X : List Cond} (h : ∀ w ∈ X, w ∈ wT) : GoodIn wT X := fun w hw => ⟨h w hw, good_of_word (List.mem_filter.mp (h w hw)).2⟩
/-- a world method's contract out of the walk of its body -/
theorem mtW_of {l : Launch} {y : MethodName} {cc : ByteArray} {maxL : Nat} {ret : Option FieldType} {rm : Room} {L : Ly} {G : GG} {b : Nat} {As : List Value} {z : Mem} {Q : Array Value → State → Outcome → State → Prop}
    (hy : plainName y.cls = true) (hl : (lg_sl As).length ≤ maxL)
    (body : ∀ (p : Program) (e : Env) (s : State) (m : MethodId) (args : Array Value) (below : List Frame) (meth : Method) (c : Code) (ls : Array Slot) (H : Heap) (locs : List Loc), Cx y cc maxL ret p s m args meth c G → Wd L G b z H → va_S (rgL L b) s.heap H locs → lv_has ls maxL (lv_args 0 As) →
      W p l e rm s m args below meth c H locs 0 0 (MQ below Q args s 0 0 (rgL L b)) (F0 m 0 ls [])) : MtW l y cc maxL ret rm L G b As z Q := by
  refine Met.ofW (cc := cc) (maxL := maxL) (ret := ret) hy rfl ?_
  intro p e s m args below meth c s₁ B hml hv
  obtain ⟨rfl, hW, hK⟩ := hv
  rw [lg_entry_eq]
  exact body p e s m _ below meth c _ s.heap [] ⟨B.exec, B.bytes, hml, B.returns, findClass_of_methodNamed B.named, fun w hw => atoms_spec (ws := Cond.code y cc maxL ret :: wT) B.pre w (List.mem_cons_of_mem _ hw), B.notSynchronized, hK⟩ hW va_S.rf (lv_entry As hl)
def Cp (y : MethodName) (cc : ByteArray) (nL : Nat) (ret : Option FieldType) (p : Program) (s : State) (m : MethodId) (args : Array Value) (meth : Method) (c : Code) : Prop :=
  p.tables.exec = Jvm.exec ∧ c.code = cc ∧ c.maxLocals = nL ∧ meth.sig.returnType = ret ∧ s.vm.findClass y.cls = some m.cls ∧ (∀ w ∈ wT, w.before args s = true) ∧ meth.locks = false
theorem mtP_of {l : Launch} {y : MethodName} {cc : ByteArray} {maxL : Nat} {ret : Option FieldType} {rm : Room} {As : List Value} {Q : Array Value → State → Outcome → State → Prop}
    (hy : plainName y.cls = true) (hl : (lg_sl As).length ≤ maxL)
    (body : ∀ (p : Program) (e : Env) (s : State) (m : MethodId) (args : Array Value) (below : List Frame) (meth : Method) (c : Code) (ls : Array Slot), Cp y cc maxL ret p s m args meth c → lv_has ls maxL (lv_args 0 As) →
      W p l e rm s m args below meth c s.heap [] 0 0 (MQ below Q args s 0 0 (fun _ => False)) (F0 m 0 ls [])) : MtP l y cc maxL ret rm As Q := by
  refine Met.ofW (cc := cc) (maxL := maxL) (ret := ret) hy rfl ?_
  intro p e s m args below meth c s₁ B hml hv
  obtain ⟨rfl, -⟩ := hv
  rw [lg_entry_eq]
  exact body p e s m _ below meth c _ ⟨B.exec, B.bytes, hml, B.returns, findClass_of_methodNamed B.named, fun w hw => atoms_spec (ws := Cond.code y cc maxL ret :: wT) B.pre w (List.mem_cons_of_mem _ hw), B.notSynchronized⟩ (lv_entry As hl)
section QROWS
variable {p : Program} {l : Launch} {e : Env} {R : Room} {s : State} {m : MethodId} {args : Array Value} {below : List Frame} {meth : Method} {c : Code} {H : Heap} {locs : List Loc} {cells slots : Nat} {Q : State → Prop}
variable {cc : ByteArray} {pc : Nat} {ls : Array Slot} {rest st : List Value} {L : Ly} {G : GG} {b kc ki : Nat} {z : Mem}
/-! ===== fields ===== -/
theorem q_get (hx : p.tables.exec = Jvm.exec) (hb : c.code = cc) {own ref C : String} {T : u_T} {N ci index : Nat} (hts : ∀ w ∈ wT, w.before args s = true) (hin : ∀ w ∈ u_ws C T N, w ∈ wT) (hown : s.vm.findClass own = some m.cls) (hK : va_K G.1 cls6 (tysG G) s) (hW : Wd L G b z H) (ho : okL L kc ki) {fs : List Value} (hcf : L.2.2.2.2 G.2 b kc ki (z.1 kc ki) z.2 = .inr (ci, fs)) (hc : cls6[ci]? = some (C, T, N)) (k : Nat) (hk : k < N)
    (hlink : Cond.fieldLink own index (T k).1 (T k).2.1 (T k).2.2.1 ∈ wT) {v : Value} (hv : fs[k]? = some v) (hdg : decode cc pc = .ok (.getfield index, 3))
    (kk : W p l e R s m args below meth c H locs cells slots Q (F0 m (pc + 3) ls (v :: rest))) : W p l e R s m args below meth c H locs cells slots Q (F0 m pc ls (.ref (ad L b kc ki) :: rest)) :=
  va_get hx hb hts hin hown hK hW (L.2.2.2.1 kc ki) (by rw [wl_at ho, hcf]) hc k hk (hts _ hlink) (fun _ h => h) hv hdg kk
theorem q_put (hx : p.tables.exec = Jvm.exec) (hb : c.code = cc) {own C : String} {T : u_T} {N ci index : Nat} (hts : ∀ w ∈ wT, w.before args s = true) (hin : ∀ w ∈ u_ws C T N, w ∈ wT) (ty0 : Nat → FieldType) (hty : ∀ k, k < N → parseFieldDescriptor (T k).2.2.1 = some (ty0 k)) (hnm : ∀ a, a < N → ∀ b, b < N → a ≠ b → (T a).2.1 ≠ (T b).2.1) (hown : s.vm.findClass own = some m.cls) (hK : va_K G.1 cls6 (tysG G) s) (hW : Wd L G b z H) {H0 : Heap} (hS : va_S (rgL L b) H0 H locs) (ho : okL L kc ki) {fs : List Value} (hcf : L.2.2.2.2 G.2 b kc ki (z.1 kc ki) z.2 = .inr (ci, fs)) (hc : cls6[ci]? = some (C, T, N)) (k : Nat) (hk : k < N)
    (hlink : Cond.fieldLink own index (T k).1 (T k).2.1 (T k).2.2.1 ∈ wT) (hfin : (T k).2.2.2 = false) {x : Int32} (hn : narrow (ty0 k) (.int x) = .int x) (hfit : fits (ty0 k) (.int x) = true) (hl : k < fs.length) (hset : L.2.2.2.2 G.2 b kc ki (upd (z.1 kc ki) k x) z.2 = .inr (ci, fs.set k (.int x))) (hdg : decode cc pc = .ok (.putfield index, 3))
    (kk : ∀ (H1 : Heap) (locs1 : List Loc) (z1 : Mem), z1 = pI z kc ki k x → Wd L G b z1 H1 → va_S (rgL L b) H0 H1 locs1 → W p l e R s m args below meth c H1 locs1 cells slots Q (F0 m (pc + 3) ls rest)) : W p l e R s m args below meth c H locs cells slots Q (F0 m pc ls (.int x :: .ref (ad L b kc ki) :: rest)) := by
  refine va_put hx hb hts hin ty0 hty hnm hown hK hW (wl_D L G b z) hS (L.2.2.2.1 kc ki) (by rw [wl_at ho, hcf]) hc k hk (hts _ hlink) (fun _ h => h) hfin (hty k hk) hn hfit hl hdg (fun H1 locs1 hP _ hS1 => kk H1 locs1 _ rfl ?_ hS1)
  rw [← hset, wl_set ho] at hP
  exact hP
/-! ===== arrays ===== -/
theorem q_iald (hx : p.tables.exec = Jvm.exec) (hb : c.code = cc) (hK : va_K G.1 cls6 (tysG G) s) (hW : Wd L G b z H) (ho : okL L kc ki) {n : Nat} (hcf : L.2.2.2.2 G.2 b kc ki (z.1 kc ki) z.2 = .inl (G.2 0, n, .inl (z.1 kc ki))) {x : Int32} {j : Nat} (hj : aix n x = some j) (hdg : decode cc pc = .ok (.iaload, 1))
    (kk : W p l e R s m args below meth c H locs cells slots Q (F0 m (pc + 1) ls (.int (z.1 kc ki j) :: rest))) : W p l e R s m args below meth c H locs cells slots Q (F0 m pc ls (.int x :: .ref (ad L b kc ki) :: rest)) := by
  obtain ⟨h1, rfl, -⟩ := aix_some hj
  exact va_iald hx hb hK hW (L.2.2.2.1 kc ki) 0 (by rw [wl_at ho, hcf]) rfl h1 hdg kk
theorem q_zald (hx : p.tables.exec = Jvm.exec) (hb : c.code = cc) (hK : va_K G.1 cls6 (tysG G) s) (hW : Wd L G b z H) (ho : okL L kc ki) {n : Nat} (hcf : L.2.2.2.2 G.2 b kc ki (z.1 kc ki) z.2 = .inl (G.2 2, n, .inl (z.1 kc ki))) {x : Int32} {j : Nat} (hj : aix n x = some j) (hdg : decode cc pc = .ok (.baload, 1))
    (kk : W p l e R s m args below meth c H locs cells slots Q (F0 m (pc + 1) ls (.int (z.1 kc ki j) :: rest))) : W p l e R s m args below meth c H locs cells slots Q (F0 m pc ls (.int x :: .ref (ad L b kc ki) :: rest)) := by
  obtain ⟨h1, rfl, -⟩ := aix_some hj
  exact va_zald hx hb hK hW (L.2.2.2.1 kc ki) 2 (by rw [wl_at ho, hcf]) rfl h1 hdg kk
theorem q_lald (hx : p.tables.exec = Jvm.exec) (hb : c.code = cc) (hK : va_K G.1 cls6 (tysG G) s) (hW : Wd L G b z H) (ho : okL L kc ki) {n : Nat} (hcf : L.2.2.2.2 G.2 b kc ki (z.1 kc ki) z.2 = .inl (G.2 1, n, .inr (.inl z.2))) {x : Int32} {j : Nat} (hj : aix n x = some j) (hdg : decode cc pc = .ok (.laload, 1))
    (kk : W p l e R s m args below meth c H locs cells slots Q (F0 m (pc + 1) ls (.long (z.2 j) :: rest))) : W p l e R s m args below meth c H locs cells slots Q (F0 m pc ls (.int x :: .ref (ad L b kc ki) :: rest)) := by
  obtain ⟨h1, rfl, -⟩ := aix_some hj
  exact va_lald hx hb hK hW (L.2.2.2.1 kc ki) 1 (by rw [wl_at ho, hcf]) rfl h1 hdg kk
/-- a reference out of an array of references; t0: the place of its type in tysG; kd: the kind of what it holds -/
theorem q_aald (hx : p.tables.exec = Jvm.exec) (hb : c.code = cc) (hK : va_K G.1 cls6 (tysG G) s) (hW : Wd L G b z H) (ho : okL L kc ki) {n kd t0 : Nat} {ty : FieldType} (hcf : L.2.2.2.2 G.2 b kc ki (z.1 kc ki) z.2 = .inl (G.2 t0, n, .inr (.inr (.inr (.inr (fun q => if q < n then some (ad L b kd q) else none)))))) (ht : (tysG G)[t0]? = some (G.2 t0, ty)) (hr : ty.isReference = true) {x : Int32} {j : Nat} (hj : aix n x = some j) (hdg : decode cc pc = .ok (.aaload, 1))
    (kk : W p l e R s m args below meth c H locs cells slots Q (F0 m (pc + 1) ls (.ref (ad L b kd j) :: rest))) : W p l e R s m args below meth c H locs cells slots Q (F0 m pc ls (.int x :: .ref (ad L b kc ki) :: rest)) := by
  obtain ⟨h1, rfl, hlt⟩ := aix_some hj
  have ha : (wl L G b z)[L.2.2.2.1 kc ki]? = some (ad L b kc ki, .inl (G.2 t0, n, .inr (.inr (.inr (.inr (fun q => if q < n then some (ad L b kd q) else none)))))) := by rw [wl_at ho, hcf]
  have hcell : H[ad L b kc ki]? = some (arrV (G.2 t0) n (fun q => va_rf (if q < n then some (ad L b kd q) else none))) := hW (L.2.2.2.1 kc ki) _ ha
  exact W.aald (v := .ref (ad L b kd x.toNatClampNeg)) (ty := ty) hx hb hcell ((hK.2 t0 _ ht).1 n _) hr (fun q => by cases q) (by show ¬ (x < 0 ∨ (arrV _ _ _).slots.size ≤ _); rw [arrV_size]; exact h1) (by show (arrV _ _ _).slots[_]? = _; rw [arrV_read _ _ hlt, if_pos hlt]; rfl) rfl rfl hdg kk
theorem q_iast (hx : p.tables.exec = Jvm.exec) (hb : c.code = cc) (hK : va_K G.1 cls6 (tysG G) s) (hW : Wd L G b z H) {H0 : Heap} (hS : va_S (rgL L b) H0 H locs) (ho : okL L kc ki) {n : Nat} (hcf : ∀ f : Nat → Int32, L.2.2.2.2 G.2 b kc ki f z.2 = .inl (G.2 0, n, .inl f)) {x v : Int32} {j : Nat} (hj : aix n x = some j) (hdg : decode cc pc = .ok (.iastore, 1))
    (kk : ∀ (H1 : Heap) (locs1 : List Loc) (z1 : Mem), z1 = pI z kc ki j v → Wd L G b z1 H1 → va_S (rgL L b) H0 H1 locs1 → W p l e R s m args below meth c H1 locs1 cells slots Q (F0 m (pc + 1) ls rest)) : W p l e R s m args below meth c H locs cells slots Q (F0 m pc ls (.int v :: .int x :: .ref (ad L b kc ki) :: rest)) := by
  obtain ⟨h1, rfl, -⟩ := aix_some hj
  refine va_iast hx hb hK hW (wl_D L G b z) hS (L.2.2.2.1 kc ki) 0 (by rw [wl_at ho, hcf]) rfl h1 hdg (fun H1 locs1 hP _ hS1 => kk H1 locs1 _ rfl ?_ hS1)
  rw [← hcf, wl_set ho] at hP
  exact hP
theorem q_zast (hx : p.tables.exec = Jvm.exec) (hb : c.code = cc) (hK : va_K G.1 cls6 (tysG G) s) (hW : Wd L G b z H) {H0 : Heap} (hS : va_S (rgL L b) H0 H locs) (ho : okL L kc ki) {n : Nat} (hcf : ∀ f : Nat → Int32, L.2.2.2.2 G.2 b kc ki f z.2 = .inl (G.2 2, n, .inl f)) {x v : Int32} {j : Nat} (hv : v = 0 ∨ v = 1) (hj : aix n x = some j) (hdg : decode cc pc = .ok (.bastore, 1))
    (kk : ∀ (H1 : Heap) (locs1 : List Loc) (z1 : Mem), z1 = pI z kc ki j v → Wd L G b z1 H1 → va_S (rgL L b) H0 H1 locs1 → W p l e R s m args below meth c H1 locs1 cells slots Q (F0 m (pc + 1) ls rest)) : W p l e R s m args below meth c H locs cells slots Q (F0 m pc ls (.int v :: .int x :: .ref (ad L b kc ki) :: rest)) := by
  obtain ⟨h1, rfl, -⟩ := aix_some hj
  refine va_zast hx hb hK hW (wl_D L G b z) hS (L.2.2.2.1 kc ki) 2 (by rw [wl_at ho, hcf]) rfl h1 hdg (fun H1 locs1 hP _ hS1 => kk H1 locs1 _ rfl ?_ hS1)
  rw [bz_vnar hv, ← hcf, wl_set ho] at hP
  exact hP
theorem q_last (hx : p.tables.exec = Jvm.exec) (hb : c.code = cc) (hK : va_K G.1 cls6 (tysG G) s) (hW : Wd L G b z H) {H0 : Heap} (hS : va_S (rgL L b) H0 H locs) {kl : Nat} (hl : lnL L kl) {n : Nat} (hcf : ∀ g : Nat → Int64, L.2.2.2.2 G.2 b kl 0 (z.1 kl 0) g = .inl (G.2 1, n, .inr (.inl g))) {x : Int32} {v : Int64} {j : Nat} (hj : aix n x = some j) (hdg : decode cc pc = .ok (.lastore, 1))
    (kk : ∀ (H1 : Heap) (locs1 : List Loc) (z1 : Mem), z1 = pL z j v → Wd L G b z1 H1 → va_S (rgL L b) H0 H1 locs1 → W p l e R s m args below meth c H1 locs1 cells slots Q (F0 m (pc + 1) ls rest)) : W p l e R s m args below meth c H locs cells slots Q (F0 m pc ls (.long v :: .int x :: .ref (ad L b kl 0) :: rest)) := by
  obtain ⟨h1, rfl, -⟩ := aix_some hj
  refine va_last hx hb hK hW (wl_D L G b z) hS (L.2.2.2.1 kl 0) 1 (by rw [wl_at hl.1, hcf]) rfl h1 hdg (fun H1 locs1 hP _ hS1 => kk H1 locs1 _ rfl ?_ hS1)
  rw [← hcf, wl_setL hl] at hP
  exact hP
theorem q_alen (hx : p.tables.exec = Jvm.exec) (hb : c.code = cc) (hK : va_K G.1 cls6 (tysG G) s) (hW : Wd L G b z H) (ho : okL L kc ki) {t0 : Nat} {ty : FieldType} {x : vp_A} (hcf : L.2.2.2.2 G.2 b kc ki (z.1 kc ki) z.2 = .inl (G.2 t0, x)) (ht : (tysG G)[t0]? = some (G.2 t0, ty)) {v : Int32} (hv : Int32.ofNat x.1 = v) (hdg : decode cc pc = .ok (.arraylength, 1))
    (kk : W p l e R s m args below meth c H locs cells slots Q (F0 m (pc + 1) ls (.int v :: rest))) : W p l e R s m args below meth c H locs cells slots Q (F0 m pc ls (.ref (ad L b kc ki) :: rest)) :=
  va_alen hx hb hK hW (L.2.2.2.1 kc ki) t0 (by rw [wl_at ho, hcf]) ht hv hdg kk
/-- System.arraycopy within one array -/
theorem q_cpi (hx : p.tables.exec = Jvm.exec) (hb : c.code = cc) (hml : c.maxLocals = ls.size) {own : String} {index : Nat} (hts : ∀ w ∈ wT, w.before args s = true) (hown : s.vm.findClass own = some m.cls) (hlink : Cond.methodLink own index arraycopyName ∈ wT) (hcw : Cond.native arraycopyName ∈ wT ∧ Cond.static arraycopyName ∈ wT ∧ Cond.initialized "java/lang/System" ∈ wT) (hK : va_K G.1 cls6 (tysG G) s) (hW : Wd L G b z H) {H0 : Heap} (hS : va_S (rgL L b) H0 H locs) (ho : okL L kc ki) {n : Nat} (hcf : ∀ f : Nat → Int32, L.2.2.2.2 G.2 b kc ki f z.2 = .inl (G.2 0, n, .inl f)) {sp dp ln : Int32} {u : Unit} (ha : acp n sp dp ln = some u)
    (hR : 1 ≤ R.frames) (hlo : (rest.map fun v => v.category).sum + (nativeFrameWords "java/lang/System" "arraycopy" 5 + 11) ≤ R.locals) (hdg : decode cc pc = .ok (.invokestatic index, 3))
    (kk : ∀ (H1 : Heap) (locs1 : List Loc) (z1 : Mem), z1 = cpI z kc ki sp dp ln → Wd L G b z1 H1 → va_S (rgL L b) H0 H1 locs1 → W p l e R s m args below meth c H1 locs1 cells slots Q (F0 m (pc + 3) ls rest)) : W p l e R s m args below meth c H locs cells slots Q (F0 m pc ls (.int ln :: .int dp :: .ref (ad L b kc ki) :: .int sp :: .ref (ad L b kc ki) :: rest)) := by
  obtain ⟨h1, h2, h3, h4, h5⟩ := acp_some ha
  refine va_copyi hx hb hml hown (hts _ hlink) (hts _ hcw.1) (hts _ hcw.2.1) (hts _ hcw.2.2) hK hW (wl_D L G b z) hS (L.2.2.2.1 kc ki) (L.2.2.2.1 kc ki) 0 0 (by rw [wl_at ho, hcf]) (by rw [wl_at ho, hcf]) rfl rfl rfl h1 h2 h3 h4 h5 (fun _ _ => rfl) hR hlo hdg (fun H1 locs1 hP _ hS1 => kk H1 locs1 _ rfl ?_ hS1)
  rw [← hcf, wl_set ho] at hP
  exact hP
theorem q_cpl (hx : p.tables.exec = Jvm.exec) (hb : c.code = cc) (hml : c.maxLocals = ls.size) {own : String} {index : Nat} (hts : ∀ w ∈ wT, w.before args s = true) (hown : s.vm.findClass own = some m.cls) (hlink : Cond.methodLink own index arraycopyName ∈ wT) (hcw : Cond.native arraycopyName ∈ wT ∧ Cond.static arraycopyName ∈ wT ∧ Cond.initialized "java/lang/System" ∈ wT) (hK : va_K G.1 cls6 (tysG G) s) (hW : Wd L G b z H) {H0 : Heap} (hS : va_S (rgL L b) H0 H locs) {kl : Nat} (hl : lnL L kl) {n : Nat} (hcf : ∀ g : Nat → Int64, L.2.2.2.2 G.2 b kl 0 (z.1 kl 0) g = .inl (G.2 1, n, .inr (.inl g))) {sp dp ln : Int32} {u : Unit} (ha : acp n sp dp ln = some u)
    (hR : 1 ≤ R.frames) (hlo : (rest.map fun v => v.category).sum + (nativeFrameWords "java/lang/System" "arraycopy" 5 + 11) ≤ R.locals) (hdg : decode cc pc = .ok (.invokestatic index, 3))
    (kk : ∀ (H1 : Heap) (locs1 : List Loc) (z1 : Mem), z1 = cpL z sp dp ln → Wd L G b z1 H1 → va_S (rgL L b) H0 H1 locs1 → W p l e R s m args below meth c H1 locs1 cells slots Q (F0 m (pc + 3) ls rest)) : W p l e R s m args below meth c H locs cells slots Q (F0 m pc ls (.int ln :: .int dp :: .ref (ad L b kl 0) :: .int sp :: .ref (ad L b kl 0) :: rest)) := by
  obtain ⟨h1, h2, h3, h4, h5⟩ := acp_some ha
  refine va_copyl hx hb hml hown (hts _ hlink) (hts _ hcw.1) (hts _ hcw.2.1) (hts _ hcw.2.2) hK hW (wl_D L G b z) hS (L.2.2.2.1 kl 0) (L.2.2.2.1 kl 0) 1 1 (by rw [wl_at hl.1, hcf]) (by rw [wl_at hl.1, hcf]) rfl rfl rfl h1 h2 h3 h4 h5 (fun _ _ => rfl) hR hlo hdg (fun H1 locs1 hP _ hS1 => kk H1 locs1 _ rfl ?_ hS1)
  rw [← hcf, wl_setL hl] at hP
  exact hP
end QROWS
end
section
def tcX (k : Nat) : Nat := if k = 0 then 0 else if k = 1 then 1 else if k < 10 then 2 else if k = 10 then 3 else if k < 107 then 4 + (k - 11) % 4 else if k = 107 then 8 else if k < 114 then 9 else if k = 114 then 10 else if k < 179 then 11 else if k = 179 then 12 else if k < 183 then 13 + (k - 180) else 16
def tiX (k : Nat) : Nat := if k < 2 then 0 else if k < 10 then k - 2 else if k = 10 then 0 else if k < 107 then (k - 11) / 4 else if k = 107 then 0 else if k < 114 then k - 108 else if k = 114 then 0 else if k < 179 then k - 115 else 0
def plX (kc ki : Nat) : Nat := match kc with
  | 0 => 0
  | 1 => 1
  | 2 => 2 + ki
  | 3 => 10
  | 4 => 11 + 4 * ki
  | 5 => 12 + 4 * ki
  | 6 => 13 + 4 * ki
  | 7 => 14 + 4 * ki
  | 8 => 107
  | 9 => 108 + ki
  | 10 => 114
  | 11 => 115 + ki
  | 12 => 179
  | 13 => 180
  | 14 => 181
  | 15 => 182
  | _ => 183
def cfX (ar : Nat → ClassId) (b kc ki : Nat) (f : Nat → Int32) (g : Nat → Int64) : va_E := match kc with
  | 0 => .inr (0, [.ref (b + plX 1 0), .ref (b + plX 3 0), .ref (b + plX 8 0), .ref (b + plX 10 0), .ref (b + plX 12 0), .ref (b + plX 16 0), .int (f 6), .int (f 7), .int (f 8), .int (f 9)])
  | 1 => .inl (ar 3, 8, .inr (.inr (.inr (.inr (fun q => if q < 8 then some (b + plX 2 q) else none)))))
  | 2 => .inl (ar 0, 8, .inl f)
  | 3 => .inl (ar 4, 24, .inr (.inr (.inr (.inr (fun q => if q < 24 then some (b + plX 4 q) else none)))))
  | 4 => .inr (4, [.int (f 0), .int (f 1), .int (f 2), .int (f 3), .int (f 4), .int (f 5), .int (f 6), .int (f 7), .int (f 8), .int (f 9), .int (f 10), .ref (b + plX 5 ki), .ref (b + plX 6 ki), .ref (b + plX 7 ki)])
  | 5 => .inl (ar 0, 8, .inl f)
  | 6 => .inl (ar 0, 6, .inl f)
  | 7 => .inl (ar 0, 6, .inl f)
  | 8 => .inl (ar 5, 6, .inr (.inr (.inr (.inr (fun q => if q < 6 then some (b + plX 9 q) else none)))))
  | 9 => .inr (2, [.int (f 0), .int (f 1), .int (f 2), .int (f 3), .int (f 4), .int (f 5), .int (f 6), .int (f 7), .int (f 8), .int (f 9), .int (f 10), .int (f 11), .int (f 12), .int (f 13)])
  | 10 => .inl (ar 6, 64, .inr (.inr (.inr (.inr (fun q => if q < 64 then some (b + plX 11 q) else none)))))
  | 11 => .inr (3, [.int (f 0), .int (f 1), .int (f 2), .int (f 3), .int (f 4), .int (f 5), .int (f 6)])
  | 12 => .inr (1, [.ref (b + plX 13 0), .ref (b + plX 14 0), .ref (b + plX 15 0), .int (f 3)])
  | 13 => .inl (ar 0, 70, .inl f)
  | 14 => .inl (ar 0, 70, .inl f)
  | 15 => .inl (ar 0, 70, .inl f)
  | 16 => .inl (ar 1, 16, .inr (.inl g))
  | _ => .inr (0, [])
def LX : Ly := (184, tcX, tiX, plX, cfX)
theorem plX_all : ∀ k, k < 184 → plX (tcX k) (tiX k) = k := by decide +kernel
theorem okX_of {kc ki : Nat} (h : plX kc ki < 184 ∧ tcX (plX kc ki) = kc ∧ tiX (plX kc ki) = ki) : okL LX kc ki := ⟨h.1, h.2.1, h.2.2, fun k hk h1 h2 => by
  have h9 := plX_all k hk
  have e1 : tcX k = kc := h1
  have e2 : tiX k = ki := h2
  rw [e1, e2] at h9
  exact h9.symm⟩
theorem okX0 : okL LX 0 0 := okX_of (by decide)
theorem okX1 : okL LX 1 0 := okX_of (by decide)
theorem kX2 : ∀ i, i < 8 → (plX 2 i < 184 ∧ tcX (plX 2 i) = 2 ∧ tiX (plX 2 i) = i) := by decide +kernel
theorem okX2 {i : Nat} (h : i < 8) : okL LX 2 i := okX_of (kX2 i h)
theorem okX3 : okL LX 3 0 := okX_of (by decide)
theorem kX4 : ∀ i, i < 24 → (plX 4 i < 184 ∧ tcX (plX 4 i) = 4 ∧ tiX (plX 4 i) = i) := by decide +kernel
theorem okX4 {i : Nat} (h : i < 24) : okL LX 4 i := okX_of (kX4 i h)
theorem kX5 : ∀ i, i < 24 → (plX 5 i < 184 ∧ tcX (plX 5 i) = 5 ∧ tiX (plX 5 i) = i) := by decide +kernel
theorem okX5 {i : Nat} (h : i < 24) : okL LX 5 i := okX_of (kX5 i h)
theorem kX6 : ∀ i, i < 24 → (plX 6 i < 184 ∧ tcX (plX 6 i) = 6 ∧ tiX (plX 6 i) = i) := by decide +kernel
theorem okX6 {i : Nat} (h : i < 24) : okL LX 6 i := okX_of (kX6 i h)
theorem kX7 : ∀ i, i < 24 → (plX 7 i < 184 ∧ tcX (plX 7 i) = 7 ∧ tiX (plX 7 i) = i) := by decide +kernel
theorem okX7 {i : Nat} (h : i < 24) : okL LX 7 i := okX_of (kX7 i h)
theorem okX8 : okL LX 8 0 := okX_of (by decide)
theorem kX9 : ∀ i, i < 6 → (plX 9 i < 184 ∧ tcX (plX 9 i) = 9 ∧ tiX (plX 9 i) = i) := by decide +kernel
theorem okX9 {i : Nat} (h : i < 6) : okL LX 9 i := okX_of (kX9 i h)
theorem okX10 : okL LX 10 0 := okX_of (by decide)
theorem kX11 : ∀ i, i < 64 → (plX 11 i < 184 ∧ tcX (plX 11 i) = 11 ∧ tiX (plX 11 i) = i) := by decide +kernel
theorem okX11 {i : Nat} (h : i < 64) : okL LX 11 i := okX_of (kX11 i h)
theorem okX12 : okL LX 12 0 := okX_of (by decide)
theorem okX13 : okL LX 13 0 := okX_of (by decide)
theorem okX14 : okL LX 14 0 := okX_of (by decide)
theorem okX15 : okL LX 15 0 := okX_of (by decide)
theorem okX16 : okL LX 16 0 := okX_of (by decide)
theorem lnX : lnL LX 16 := ⟨okX16, (by decide +kernel : ∀ k, k < 184 → tcX k = 16 → tiX k = 0), fun ar b kc ki f g g1 h => match kc, h with
  | 0, _ => rfl
  | 1, _ => rfl
  | 2, _ => rfl
  | 3, _ => rfl
  | 4, _ => rfl
  | 5, _ => rfl
  | 6, _ => rfl
  | 7, _ => rfl
  | 8, _ => rfl
  | 9, _ => rfl
  | 10, _ => rfl
  | 11, _ => rfl
  | 12, _ => rfl
  | 13, _ => rfl
  | 14, _ => rfl
  | 15, _ => rfl
  | 16, h => absurd rfl h
  | (n + 17), _ => rfl⟩
def tcY (k : Nat) : Nat := k
def tiY (_ : Nat) : Nat := 0
def plY (kc _ : Nat) : Nat := kc
def cfY (ar : Nat → ClassId) (b kc ki : Nat) (f : Nat → Int32) (g : Nat → Int64) : va_E := match kc with
  | 0 => .inr (5, [.int (f 0), .ref (b + plY 1 0), .ref (b + plY 2 0), .ref (b + plY 3 0), .ref (b + plY 4 0), .ref (b + plY 5 0), .ref (b + plY 6 0), .ref (b + plY 7 0), .ref (b + plY 8 0), .int (f 9), .ref (b + plY 9 0), .ref (b + plY 10 0), .ref (b + plY 11 0), .ref (b + plY 12 0), .ref (b + plY 13 0), .ref (b + plY 14 0), .ref (b + plY 15 0), .ref (b + plY 16 0), .ref (b + plY 17 0), .ref (b + plY 18 0), .ref (b + plY 19 0), .ref (b + plY 20 0), .ref (b + plY 21 0), .ref (b + plY 22 0), .ref (b + plY 23 0), .ref (b + plY 24 0), .ref (b + plY 25 0), .ref (b + plY 26 0), .ref (b + plY 27 0), .ref (b + plY 28 0), .ref (b + plY 29 0), .ref (b + plY 30 0), .ref (b + plY 31 0), .ref (b + plY 32 0), .ref (b + plY 33 0), .int (f 35), .int (f 36), .int (f 37), .int (f 38), .ref (b + plY 34 0)])
  | 1 => .inl (ar 0, 12, .inl f)
  | 2 => .inl (ar 0, 12, .inl f)
  | 3 => .inl (ar 0, 12, .inl f)
  | 4 => .inl (ar 0, 12, .inl f)
  | 5 => .inl (ar 0, 12, .inl f)
  | 6 => .inl (ar 0, 24, .inl f)
  | 7 => .inl (ar 0, 24, .inl f)
  | 8 => .inl (ar 0, 64, .inl f)
  | 9 => .inl (ar 0, 6, .inl f)
  | 10 => .inl (ar 0, 6, .inl f)
  | 11 => .inl (ar 0, 6, .inl f)
  | 12 => .inl (ar 0, 6, .inl f)
  | 13 => .inl (ar 0, 6, .inl f)
  | 14 => .inl (ar 0, 6, .inl f)
  | 15 => .inl (ar 0, 6, .inl f)
  | 16 => .inl (ar 0, 6, .inl f)
  | 17 => .inl (ar 0, 6, .inl f)
  | 18 => .inl (ar 0, 6, .inl f)
  | 19 => .inl (ar 0, 6, .inl f)
  | 20 => .inl (ar 0, 6, .inl f)
  | 21 => .inl (ar 0, 6, .inl f)
  | 22 => .inl (ar 0, 6, .inl f)
  | 23 => .inl (ar 0, 24, .inl f)
  | 24 => .inl (ar 0, 64, .inl f)
  | 25 => .inl (ar 0, 64, .inl f)
  | 26 => .inl (ar 0, 64, .inl f)
  | 27 => .inl (ar 2, 64, .inl f)
  | 28 => .inl (ar 0, 64, .inl f)
  | 29 => .inl (ar 0, 64, .inl f)
  | 30 => .inl (ar 0, 64, .inl f)
  | 31 => .inl (ar 0, 144, .inl f)
  | 32 => .inl (ar 0, 144, .inl f)
  | 33 => .inl (ar 2, 144, .inl f)
  | 34 => .inl (ar 1, 16, .inr (.inl g))
  | _ => .inr (0, [])
def LY : Ly := (35, tcY, tiY, plY, cfY)
theorem okY0 : okL LY 0 0 := ⟨by decide, rfl, rfl, fun k _ h1 _ => h1⟩
theorem okY1 : okL LY 1 0 := ⟨by decide, rfl, rfl, fun k _ h1 _ => h1⟩
theorem okY2 : okL LY 2 0 := ⟨by decide, rfl, rfl, fun k _ h1 _ => h1⟩
theorem okY3 : okL LY 3 0 := ⟨by decide, rfl, rfl, fun k _ h1 _ => h1⟩
theorem okY4 : okL LY 4 0 := ⟨by decide, rfl, rfl, fun k _ h1 _ => h1⟩
theorem okY5 : okL LY 5 0 := ⟨by decide, rfl, rfl, fun k _ h1 _ => h1⟩
theorem okY6 : okL LY 6 0 := ⟨by decide, rfl, rfl, fun k _ h1 _ => h1⟩
theorem okY7 : okL LY 7 0 := ⟨by decide, rfl, rfl, fun k _ h1 _ => h1⟩
theorem okY8 : okL LY 8 0 := ⟨by decide, rfl, rfl, fun k _ h1 _ => h1⟩
theorem okY9 : okL LY 9 0 := ⟨by decide, rfl, rfl, fun k _ h1 _ => h1⟩
theorem okY10 : okL LY 10 0 := ⟨by decide, rfl, rfl, fun k _ h1 _ => h1⟩
theorem okY11 : okL LY 11 0 := ⟨by decide, rfl, rfl, fun k _ h1 _ => h1⟩
theorem okY12 : okL LY 12 0 := ⟨by decide, rfl, rfl, fun k _ h1 _ => h1⟩
theorem okY13 : okL LY 13 0 := ⟨by decide, rfl, rfl, fun k _ h1 _ => h1⟩
theorem okY14 : okL LY 14 0 := ⟨by decide, rfl, rfl, fun k _ h1 _ => h1⟩
theorem okY15 : okL LY 15 0 := ⟨by decide, rfl, rfl, fun k _ h1 _ => h1⟩
theorem okY16 : okL LY 16 0 := ⟨by decide, rfl, rfl, fun k _ h1 _ => h1⟩
theorem okY17 : okL LY 17 0 := ⟨by decide, rfl, rfl, fun k _ h1 _ => h1⟩
theorem okY18 : okL LY 18 0 := ⟨by decide, rfl, rfl, fun k _ h1 _ => h1⟩
theorem okY19 : okL LY 19 0 := ⟨by decide, rfl, rfl, fun k _ h1 _ => h1⟩
theorem okY20 : okL LY 20 0 := ⟨by decide, rfl, rfl, fun k _ h1 _ => h1⟩
theorem okY21 : okL LY 21 0 := ⟨by decide, rfl, rfl, fun k _ h1 _ => h1⟩
theorem okY22 : okL LY 22 0 := ⟨by decide, rfl, rfl, fun k _ h1 _ => h1⟩
theorem okY23 : okL LY 23 0 := ⟨by decide, rfl, rfl, fun k _ h1 _ => h1⟩
theorem okY24 : okL LY 24 0 := ⟨by decide, rfl, rfl, fun k _ h1 _ => h1⟩
theorem okY25 : okL LY 25 0 := ⟨by decide, rfl, rfl, fun k _ h1 _ => h1⟩
theorem okY26 : okL LY 26 0 := ⟨by decide, rfl, rfl, fun k _ h1 _ => h1⟩
theorem okY27 : okL LY 27 0 := ⟨by decide, rfl, rfl, fun k _ h1 _ => h1⟩
theorem okY28 : okL LY 28 0 := ⟨by decide, rfl, rfl, fun k _ h1 _ => h1⟩
theorem okY29 : okL LY 29 0 := ⟨by decide, rfl, rfl, fun k _ h1 _ => h1⟩
theorem okY30 : okL LY 30 0 := ⟨by decide, rfl, rfl, fun k _ h1 _ => h1⟩
theorem okY31 : okL LY 31 0 := ⟨by decide, rfl, rfl, fun k _ h1 _ => h1⟩
theorem okY32 : okL LY 32 0 := ⟨by decide, rfl, rfl, fun k _ h1 _ => h1⟩
theorem okY33 : okL LY 33 0 := ⟨by decide, rfl, rfl, fun k _ h1 _ => h1⟩
theorem okY34 : okL LY 34 0 := ⟨by decide, rfl, rfl, fun k _ h1 _ => h1⟩
theorem lnY : lnL LY 34 := ⟨okY34, (by decide +kernel : ∀ k, k < 35 → tcY k = 34 → tiY k = 0), fun ar b kc ki f g g1 h => match kc, h with
  | 0, _ => rfl
  | 1, _ => rfl
  | 2, _ => rfl
  | 3, _ => rfl
  | 4, _ => rfl
  | 5, _ => rfl
  | 6, _ => rfl
  | 7, _ => rfl
  | 8, _ => rfl
  | 9, _ => rfl
  | 10, _ => rfl
  | 11, _ => rfl
  | 12, _ => rfl
  | 13, _ => rfl
  | 14, _ => rfl
  | 15, _ => rfl
  | 16, _ => rfl
  | 17, _ => rfl
  | 18, _ => rfl
  | 19, _ => rfl
  | 20, _ => rfl
  | 21, _ => rfl
  | 22, _ => rfl
  | 23, _ => rfl
  | 24, _ => rfl
  | 25, _ => rfl
  | 26, _ => rfl
  | 27, _ => rfl
  | 28, _ => rfl
  | 29, _ => rfl
  | 30, _ => rfl
  | 31, _ => rfl
  | 32, _ => rfl
  | 33, _ => rfl
  | 34, h => absurd rfl h
  | (n + 35), _ => rfl⟩
end
section
/-! ===== calls: of a world method (by its receiver, static), of a static method that reads no memory; the method's own end ===== -/
/-- what is known of a callee: virtual -/
def cvF (y : MethodName) (C : String) (bytes : ByteArray) (maxL : Nat) (ret : Option FieldType) (n : Nat) : Prop :=
  Cond.instanceMethod y ∈ wT ∧ Cond.selects C y y ∈ wT ∧ Cond.initialized C ∈ wT ∧ Cond.code y bytes maxL ret ∈ wT ∧ (y.cls = C ∧ y.cls ≠ "java/lang/invoke/MethodHandle" ∧ y.cls ≠ "java/lang/invoke/VarHandle" ∧ (parseMethodDescriptor y.desc).map (fun d => d.parameters.length) = some n)
/-- what is known of a callee: static -/
def csF (y : MethodName) (bytes : ByteArray) (maxL : Nat) (ret : Option FieldType) (n : Nat) : Prop :=
  Cond.static y ∈ wT ∧ Cond.initialized y.cls ∈ wT ∧ Cond.code y bytes maxL ret ∈ wT ∧ (y.cls ≠ "java/lang/invoke/MethodHandle" ∧ y.cls ≠ "java/lang/invoke/VarHandle" ∧ (parseMethodDescriptor y.desc).map (fun d => d.parameters.length) = some n)
theorem gV {own : String} {index : Nat} {C : String} {y : MethodName} {bytes : ByteArray} {maxL n : Nat} {ret : Option FieldType} (hl : Cond.methodLink own index y ∈ wT) (hf : cvF y C bytes maxL ret n) : GoodIn wT (wsV own index C y (Cond.code y bytes maxL ret :: wT)) := gT fun w hw => by
  obtain ⟨h1, h2, h3, h4, -⟩ := hf
  simp only [wsV, List.cons_append, List.nil_append, List.mem_cons] at hw
  rcases hw with rfl | rfl | rfl | rfl | rfl | hw
  · exact hl
  · exact h1
  · exact h2
  · exact h3
  · exact h4
  · exact hw
theorem gS {own : String} {index : Nat} {y : MethodName} {bytes : ByteArray} {maxL n : Nat} {ret : Option FieldType} (hl : Cond.methodLink own index y ∈ wT) (hf : csF y bytes maxL ret n) : GoodIn wT (va_wsS own index y (Cond.code y bytes maxL ret :: wT)) := gT fun w hw => by
  obtain ⟨h1, h2, h3, -⟩ := hf
  simp only [va_wsS, List.cons_append, List.nil_append, List.mem_cons] at hw
  rcases hw with rfl | rfl | rfl | rfl | hw
  · exact hl
  · exact h1
  · exact h2
  · exact h3
  · exact hw
section QCALLS
variable {p : Program} {l : Launch} {e : Env} {R : Room} {s : State} {m : MethodId} {args : Array Value} {below : List Frame} {meth : Method} {c : Code} {H : Heap} {locs : List Loc} {Q : State → Prop}
variable {cc : ByteArray} {pc nL : Nat} {ls : Array Slot} {rest st : List Value} {L : Ly} {G : GG} {b kc ki : Nat} {z z0 : Mem}
variable {y : MethodName} {bytes : ByteArray} {maxL n index : Nat} {ret : Option FieldType} {rm : Room} {own C : String} {As : List Value}
theorem q_recv {ci : Nat} {q : vw_C} {fs : List Value} (hK : va_K G.1 cls6 (tysG G) s) (hW : Wd L G b z H) (ho : okL L kc ki) (hcf : L.2.2.2.2 G.2 b kc ki (z.1 kc ki) z.2 = .inr (ci, fs)) (hc : cls6[ci]? = some q) : ∃ cell : Cell, H[ad L b kc ki]? = some cell ∧ cell.vm.isStatics = false ∧ s.vm.findClass q.1 = some cell.cls :=
  va_recv hK hW hc (q0 := L.2.2.2.1 kc ki) (fs := fs) (by rw [wl_at ho, hcf])
theorem q_callVi {r0 : Int32} {a : Nat} (hx : p.tables.exec = Jvm.exec) (hb : c.code = cc) (hml : c.maxLocals = nL) (hown : s.vm.findClass own = some m.cls) (hts : ∀ w ∈ wT, w.before args s = true) (hK : va_K G.1 cls6 (tysG G) s) (hW : Wd L G b z H) (hS : va_S (rgL L b) s.heap H locs)
    (hM : MtW l y bytes maxL ret rm L G b (.ref a :: As) z (QI L G b r0 z0)) (hf : cvF y C bytes maxL ret n) (hl : Cond.methodLink own index y ∈ wT) (hrm : rm.cells = 0 ∧ rm.slots = 0) (hR : rm.frames + 1 ≤ R.frames ∧ 8 + (maxL + 11) + rm.locals ≤ R.locals)
    (hrecv : ∃ cell : Cell, H[a]? = some cell ∧ cell.vm.isStatics = false ∧ s.vm.findClass C = some cell.cls) (hn : As.length = n) (hsz : ls.size = nL) (hstk : st = As.reverse ++ .ref a :: rest) (hst : (rest.map fun v => v.category).sum ≤ 8) (hdg : decode cc pc = .ok (.invokevirtual index, 3))
    (kk : ∀ (H1 : Heap) (locs1 : List Loc), Wd L G b z0 H1 → va_S (rgL L b) s.heap H1 locs1 → W p l e R s m args below meth c H1 locs1 0 0 Q (F0 m (pc + 3) ls (.int r0 :: rest))) : W p l e R s m args below meth c H locs 0 0 Q (F0 m pc ls st) := by
  refine va_calli (va_runV (C := C) (n := n) (As := As) (rest := rest) ⟨hx, hb, hml, hown, hts⟩ hM (cwV n hts (gV hl hf) rfl hrm.1 hrm.2 hf.2.2.2.2 hR) ⟨blindP, hrecv, fun U hU hWm => ⟨rfl, by show Wd L G b z U.heap; rw [hU]; exact hW, va_K.moved hWm.alike hK⟩⟩ rfl hn hsz hstk (lv_room hst) hdg ⟨Nat.zero_le _, Nat.zero_le _⟩) hS (fun _ _ h => h) (fun _ h => h) (fun r u t H1 locs1 ht hvm hq hB hz hk hS1 => ?_)
  obtain ⟨rfl, rfl⟩ := hq
  exact kk H1 locs1 (by rw [← ht]; exact hB.1) hS1
theorem q_callVv {a : Nat} (hx : p.tables.exec = Jvm.exec) (hb : c.code = cc) (hml : c.maxLocals = nL) (hown : s.vm.findClass own = some m.cls) (hts : ∀ w ∈ wT, w.before args s = true) (hK : va_K G.1 cls6 (tysG G) s) (hW : Wd L G b z H) (hS : va_S (rgL L b) s.heap H locs)
    (hM : MtW l y bytes maxL ret rm L G b (.ref a :: As) z (QV L G b z0)) (hf : cvF y C bytes maxL ret n) (hl : Cond.methodLink own index y ∈ wT) (hrm : rm.cells = 0 ∧ rm.slots = 0) (hR : rm.frames + 1 ≤ R.frames ∧ 8 + (maxL + 11) + rm.locals ≤ R.locals)
    (hrecv : ∃ cell : Cell, H[a]? = some cell ∧ cell.vm.isStatics = false ∧ s.vm.findClass C = some cell.cls) (hn : As.length = n) (hsz : ls.size = nL) (hstk : st = As.reverse ++ .ref a :: rest) (hst : (rest.map fun v => v.category).sum ≤ 8) (hdg : decode cc pc = .ok (.invokevirtual index, 3))
    (kk : ∀ (H1 : Heap) (locs1 : List Loc), Wd L G b z0 H1 → va_S (rgL L b) s.heap H1 locs1 → W p l e R s m args below meth c H1 locs1 0 0 Q (F0 m (pc + 3) ls rest)) : W p l e R s m args below meth c H locs 0 0 Q (F0 m pc ls st) := by
  refine va_callv (va_runV (C := C) (n := n) (As := As) (rest := rest) ⟨hx, hb, hml, hown, hts⟩ hM (cwV n hts (gV hl hf) rfl hrm.1 hrm.2 hf.2.2.2.2 hR) ⟨blindP, hrecv, fun U hU hWm => ⟨rfl, by show Wd L G b z U.heap; rw [hU]; exact hW, va_K.moved hWm.alike hK⟩⟩ rfl hn hsz hstk (lv_room hst) hdg ⟨Nat.zero_le _, Nat.zero_le _⟩) hS (fun _ _ h => h) (fun _ h => h) (fun u t H1 locs1 ht hvm hq hB hz hk hS1 => ?_)
  cases hq
  exact kk H1 locs1 (by rw [← ht]; exact hB.1) hS1
theorem q_callVj {r0 : Int64} {a : Nat} (hx : p.tables.exec = Jvm.exec) (hb : c.code = cc) (hml : c.maxLocals = nL) (hown : s.vm.findClass own = some m.cls) (hts : ∀ w ∈ wT, w.before args s = true) (hK : va_K G.1 cls6 (tysG G) s) (hW : Wd L G b z H) (hS : va_S (rgL L b) s.heap H locs)
    (hM : MtW l y bytes maxL ret rm L G b (.ref a :: As) z (QJ L G b r0 z0)) (hf : cvF y C bytes maxL ret n) (hl : Cond.methodLink own index y ∈ wT) (hrm : rm.cells = 0 ∧ rm.slots = 0) (hR : rm.frames + 1 ≤ R.frames ∧ 8 + (maxL + 11) + rm.locals ≤ R.locals)
    (hrecv : ∃ cell : Cell, H[a]? = some cell ∧ cell.vm.isStatics = false ∧ s.vm.findClass C = some cell.cls) (hn : As.length = n) (hsz : ls.size = nL) (hstk : st = As.reverse ++ .ref a :: rest) (hst : (rest.map fun v => v.category).sum ≤ 8) (hdg : decode cc pc = .ok (.invokevirtual index, 3))
    (kk : ∀ (H1 : Heap) (locs1 : List Loc), Wd L G b z0 H1 → va_S (rgL L b) s.heap H1 locs1 → W p l e R s m args below meth c H1 locs1 0 0 Q (F0 m (pc + 3) ls (.long r0 :: rest))) : W p l e R s m args below meth c H locs 0 0 Q (F0 m pc ls st) := by
  refine va_calll (va_runV (C := C) (n := n) (As := As) (rest := rest) ⟨hx, hb, hml, hown, hts⟩ hM (cwV n hts (gV hl hf) rfl hrm.1 hrm.2 hf.2.2.2.2 hR) ⟨blindP, hrecv, fun U hU hWm => ⟨rfl, by show Wd L G b z U.heap; rw [hU]; exact hW, va_K.moved hWm.alike hK⟩⟩ rfl hn hsz hstk (lv_room hst) hdg ⟨Nat.zero_le _, Nat.zero_le _⟩) hS (fun _ _ h => h) (fun _ h => h) (fun r u t H1 locs1 ht hvm hq hB hz hk hS1 => ?_)
  obtain ⟨rfl, rfl⟩ := hq
  exact kk H1 locs1 (by rw [← ht]; exact hB.1) hS1
/-- a static method over the world (Arrays.fill) -/
theorem q_callSv (hx : p.tables.exec = Jvm.exec) (hb : c.code = cc) (hml : c.maxLocals = nL) (hown : s.vm.findClass own = some m.cls) (hts : ∀ w ∈ wT, w.before args s = true) (hK : va_K G.1 cls6 (tysG G) s) (hW : Wd L G b z H) (hS : va_S (rgL L b) s.heap H locs)
    (hM : MtW l y bytes maxL ret rm L G b As z (QV L G b z0)) (hf : csF y bytes maxL ret n) (hl : Cond.methodLink own index y ∈ wT) (hrm : rm.cells = 0 ∧ rm.slots = 0) (hR : rm.frames + 1 ≤ R.frames ∧ 8 + (maxL + 11) + rm.locals ≤ R.locals)
    (hn : As.length = n) (hsz : ls.size = nL) (hstk : st = As.reverse ++ rest) (hst : (rest.map fun v => v.category).sum ≤ 8) (hdg : decode cc pc = .ok (.invokestatic index, 3))
    (kk : ∀ (H1 : Heap) (locs1 : List Loc), Wd L G b z0 H1 → va_S (rgL L b) s.heap H1 locs1 → W p l e R s m args below meth c H1 locs1 0 0 Q (F0 m (pc + 3) ls rest)) : W p l e R s m args below meth c H locs 0 0 Q (F0 m pc ls st) := by
  refine va_callv (va_runS (n := n) (As := As) (rest := rest) ⟨hx, hb, hml, hown, hts⟩ hM (va_cwS n hts (gS hl hf) rfl hrm.1 hrm.2 hf.2.2.2 hR) ⟨blindP, fun U hU hWm => ⟨rfl, by show Wd L G b z U.heap; rw [hU]; exact hW, va_K.moved hWm.alike hK⟩⟩ rfl hn hsz hstk (lv_room hst) hdg ⟨Nat.zero_le _, Nat.zero_le _⟩) hS (fun _ _ h => h) (fun _ h => h) (fun u t H1 locs1 ht hvm hq hB hz hk hS1 => ?_)
  cases hq
  exact kk H1 locs1 (by rw [← ht]; exact hB.1) hS1
/-- a static method that reads no memory, called by a world method -/
theorem q_callPi {r0 : Int32} (hx : p.tables.exec = Jvm.exec) (hb : c.code = cc) (hml : c.maxLocals = nL) (hown : s.vm.findClass own = some m.cls) (hts : ∀ w ∈ wT, w.before args s = true) (hW : Wd L G b z H) (hS : va_S (rgL L b) s.heap H locs)
    (hM : MtP l y bytes maxL ret rm As (QPI r0)) (hf : csF y bytes maxL ret n) (hl : Cond.methodLink own index y ∈ wT) (hrm : rm.cells = 0 ∧ rm.slots = 0) (hR : rm.frames + 1 ≤ R.frames ∧ 8 + (maxL + 11) + rm.locals ≤ R.locals)
    (hn : As.length = n) (hsz : ls.size = nL) (hstk : st = As.reverse ++ rest) (hst : (rest.map fun v => v.category).sum ≤ 8) (hdg : decode cc pc = .ok (.invokestatic index, 3))
    (kk : ∀ (H1 : Heap) (locs1 : List Loc), Wd L G b z H1 → va_S (rgL L b) s.heap H1 locs1 → W p l e R s m args below meth c H1 locs1 0 0 Q (F0 m (pc + 3) ls (.int r0 :: rest))) : W p l e R s m args below meth c H locs 0 0 Q (F0 m pc ls st) := by
  refine va_calli (va_runS (n := n) (As := As) (rest := rest) ⟨hx, hb, hml, hown, hts⟩ hM (va_cwS n hts (gS hl hf) rfl hrm.1 hrm.2 hf.2.2.2 hR) ⟨blindT, fun U hU hWm => ⟨rfl, trivial⟩⟩ rfl hn hsz hstk (lv_room hst) hdg ⟨Nat.zero_le _, Nat.zero_le _⟩) hS (fun _ _ h => h.elim) (fun _ h => h.elim) (fun r u t H1 locs1 ht hvm hq hB hz hk hS1 => ?_)
  cases hq
  exact kk H1 locs1 (hW.kept hk) hS1
theorem q_callPj {r0 : Int64} (hx : p.tables.exec = Jvm.exec) (hb : c.code = cc) (hml : c.maxLocals = nL) (hown : s.vm.findClass own = some m.cls) (hts : ∀ w ∈ wT, w.before args s = true) (hW : Wd L G b z H) (hS : va_S (rgL L b) s.heap H locs)
    (hM : MtP l y bytes maxL ret rm As (QPJ r0)) (hf : csF y bytes maxL ret n) (hl : Cond.methodLink own index y ∈ wT) (hrm : rm.cells = 0 ∧ rm.slots = 0) (hR : rm.frames + 1 ≤ R.frames ∧ 8 + (maxL + 11) + rm.locals ≤ R.locals)
    (hn : As.length = n) (hsz : ls.size = nL) (hstk : st = As.reverse ++ rest) (hst : (rest.map fun v => v.category).sum ≤ 8) (hdg : decode cc pc = .ok (.invokestatic index, 3))
    (kk : ∀ (H1 : Heap) (locs1 : List Loc), Wd L G b z H1 → va_S (rgL L b) s.heap H1 locs1 → W p l e R s m args below meth c H1 locs1 0 0 Q (F0 m (pc + 3) ls (.long r0 :: rest))) : W p l e R s m args below meth c H locs 0 0 Q (F0 m pc ls st) := by
  refine va_calll (va_runS (n := n) (As := As) (rest := rest) ⟨hx, hb, hml, hown, hts⟩ hM (va_cwS n hts (gS hl hf) rfl hrm.1 hrm.2 hf.2.2.2 hR) ⟨blindT, fun U hU hWm => ⟨rfl, trivial⟩⟩ rfl hn hsz hstk (lv_room hst) hdg ⟨Nat.zero_le _, Nat.zero_le _⟩) hS (fun _ _ h => h.elim) (fun _ h => h.elim) (fun r u t H1 locs1 ht hvm hq hB hz hk hS1 => ?_)
  cases hq
  exact kk H1 locs1 (hW.kept hk) hS1
/-! ===== ends ===== -/
theorem q_iret {v r0 : Int32} (hx : p.tables.exec = Jvm.exec) (hb : c.code = cc) (hr : meth.sig.returnType = some .int) (hlk : meth.locks = false) (hK : va_K G.1 cls6 (tysG G) s) (hW : Wd L G b z H) (hS : va_S (rgL L b) s.heap H locs) (h : some (v, z) = some (r0, z0)) (hdg : decode cc pc = .ok (.ireturn, 1)) :
    W p l e R s m args below meth c H locs 0 0 (MQ below (QI L G b r0 z0) args s 0 0 (rgL L b)) (F0 m pc ls [.int v]) := by
  cases h
  exact W.iret hx hb hr (fun t ht hWm => ⟨⟨v, z, rfl, ⟨rfl, rfl⟩, by show Wd L G b z t.heap; rw [ht]; exact hW, va_K.moved hWm.alike hK⟩, hS.F ht⟩) hS.2.2 hdg
theorem q_zret {v r0 : Int32} (hx : p.tables.exec = Jvm.exec) (hb : c.code = cc) (hr : meth.sig.returnType = some .boolean) (hlk : meth.locks = false) (hK : va_K G.1 cls6 (tysG G) s) (hW : Wd L G b z H) (hS : va_S (rgL L b) s.heap H locs) (hv : v = 0 ∨ v = 1) (h : some (v, z) = some (r0, z0)) (hdg : decode cc pc = .ok (.ireturn, 1)) :
    W p l e R s m args below meth c H locs 0 0 (MQ below (QI L G b r0 z0) args s 0 0 (rgL L b)) (F0 m pc ls [.int v]) := by
  cases h
  exact W.zret hx hb hr (bz_nar hv) (fun t ht hWm => ⟨⟨v, z, rfl, ⟨rfl, rfl⟩, by show Wd L G b z t.heap; rw [ht]; exact hW, va_K.moved hWm.alike hK⟩, hS.F ht⟩) hS.2.2 hdg
theorem q_jret {v r0 : Int64} (hx : p.tables.exec = Jvm.exec) (hb : c.code = cc) (hr : meth.sig.returnType = some .long) (hlk : meth.locks = false) (hK : va_K G.1 cls6 (tysG G) s) (hW : Wd L G b z H) (hS : va_S (rgL L b) s.heap H locs) (h : some (v, z) = some (r0, z0)) (hdg : decode cc pc = .ok (.lreturn, 1)) :
    W p l e R s m args below meth c H locs 0 0 (MQ below (QJ L G b r0 z0) args s 0 0 (rgL L b)) (F0 m pc ls [.long v]) := by
  cases h
  exact W.lret hx hb hr (fun t ht hWm => ⟨⟨v, z, rfl, ⟨rfl, rfl⟩, by show Wd L G b z t.heap; rw [ht]; exact hW, va_K.moved hWm.alike hK⟩, hS.F ht⟩) hS.2.2 hdg
theorem q_vret (hx : p.tables.exec = Jvm.exec) (hb : c.code = cc) (hr : meth.sig.returnType = none) (hlk : meth.locks = false) (hK : va_K G.1 cls6 (tysG G) s) (hW : Wd L G b z H) (hS : va_S (rgL L b) s.heap H locs) (h : some z = some z0) (hdg : decode cc pc = .ok (.return_, 1)) :
    W p l e R s m args below meth c H locs 0 0 (MQ below (QV L G b z0) args s 0 0 (rgL L b)) (F0 m pc ls []) := by
  cases h
  exact W.vret hx hb hr (fun t ht hWm => ⟨⟨z, rfl, rfl, by show Wd L G b z t.heap; rw [ht]; exact hW, va_K.moved hWm.alike hK⟩, hS.F ht⟩) hS.2.2 hdg
theorem q_iretP {v r0 : Int32} (hx : p.tables.exec = Jvm.exec) (hb : c.code = cc) (hr : meth.sig.returnType = some .int) (hlk : meth.locks = false) (h : some v = some r0) (hdg : decode cc pc = .ok (.ireturn, 1)) :
    W p l e R s m args below meth c s.heap [] 0 0 (MQ below (QPI r0) args s 0 0 (fun _ => False)) (F0 m pc ls [.int v]) := by
  cases h
  exact W.iret hx hb hr (fun t ht hWm => ⟨⟨v, (), rfl, rfl, trivial⟩, by rw [ht]; exact Nat.le_refl _, fun q _ _ => by rw [ht]⟩) (fun _ h => by cases h) hdg
theorem q_zretP {v r0 : Int32} (hx : p.tables.exec = Jvm.exec) (hb : c.code = cc) (hr : meth.sig.returnType = some .boolean) (hlk : meth.locks = false) (hv : v = 0 ∨ v = 1) (h : some v = some r0) (hdg : decode cc pc = .ok (.ireturn, 1)) :
    W p l e R s m args below meth c s.heap [] 0 0 (MQ below (QPI r0) args s 0 0 (fun _ => False)) (F0 m pc ls [.int v]) := by
  cases h
  exact W.zret hx hb hr (bz_nar hv) (fun t ht hWm => ⟨⟨v, (), rfl, rfl, trivial⟩, by rw [ht]; exact Nat.le_refl _, fun q _ _ => by rw [ht]⟩) (fun _ h => by cases h) hdg
theorem q_jretP {v r0 : Int64} (hx : p.tables.exec = Jvm.exec) (hb : c.code = cc) (hr : meth.sig.returnType = some .long) (hlk : meth.locks = false) (h : some v = some r0) (hdg : decode cc pc = .ok (.lreturn, 1)) :
    W p l e R s m args below meth c s.heap [] 0 0 (MQ below (QPJ r0) args s 0 0 (fun _ => False)) (F0 m pc ls [.long v]) := by
  cases h
  exact W.lret hx hb hr (fun t ht hWm => ⟨⟨v, (), rfl, rfl, trivial⟩, by rw [ht]; exact Nat.le_refl _, fun q _ _ => by rw [ht]⟩) (fun _ h => by cases h) hdg
end QCALLS
end
section
theorem f_X_isNode : csF y_X_isNode b_X_isNode 1 (some .boolean) 1 := ⟨t_258, t_1, t_259, by decide +kernel⟩
theorem f_X_isWithin : csF y_X_isWithin b_X_isWithin 3 (some .boolean) 3 := ⟨t_261, t_1, t_262, by decide +kernel⟩
theorem f_J_fill0 : csF y_J_fill0 b_J_fill0 4 none 2 := ⟨t_210, t_6, t_211, by decide +kernel⟩
theorem f_P_lay : cvF y_P_lay "DeficitNet$Port" b_P_lay 6 none 5 := ⟨t_264, t_265, t_2, t_266, by decide +kernel⟩
theorem f_X_shortenOver : cvF y_X_shortenOver "DeficitNet" b_X_shortenOver 7 none 3 := ⟨t_270, s_0, t_1, t_271, by decide +kernel⟩
theorem f_X_link : cvF y_X_link "DeficitNet" b_X_link 7 (some .int) 5 := ⟨t_254, t_255, t_1, t_256, by decide +kernel⟩
theorem f_X_isPort : cvF y_X_isPort "DeficitNet" b_X_isPort 2 (some .boolean) 1 := ⟨t_278, s_1, t_1, t_279, by decide +kernel⟩
theorem f_X_shape : cvF y_X_shape "DeficitNet" b_X_shape 4 (some .boolean) 3 := ⟨t_273, t_274, t_1, t_275, by decide +kernel⟩
theorem f_F_found : cvF y_F_found "DeficitNet$Flow" b_F_found 5 none 4 := ⟨t_285, t_286, t_3, t_287, by decide +kernel⟩
theorem f_X_flow : cvF y_X_flow "DeficitNet" b_X_flow 6 (some .int) 4 := ⟨t_281, t_282, t_1, t_283, by decide +kernel⟩
theorem f_X_isFlow : cvF y_X_isFlow "DeficitNet" b_X_isFlow 2 (some .boolean) 1 := ⟨t_294, s_2, t_1, t_295, by decide +kernel⟩
theorem f_X_tune : cvF y_X_tune "DeficitNet" b_X_tune 5 (some .boolean) 4 := ⟨t_289, t_290, t_1, t_291, by decide +kernel⟩
theorem f_A_unsetAll : cvF y_A_unsetAll "DeficitNet$Agenda" b_A_unsetAll 1 none 0 := ⟨t_213, t_214, t_5, t_215, by decide +kernel⟩
theorem f_J_fill1 : csF y_J_fill1 b_J_fill1 5 none 2 := ⟨t_219, t_6, t_220, by decide +kernel⟩
theorem f_X_clear : cvF y_X_clear "DeficitNet" b_X_clear 2 none 0 := ⟨t_206, t_207, t_1, t_208, by decide +kernel⟩
theorem f_A_set : cvF y_A_set "DeficitNet$Agenda" b_A_set 4 none 3 := ⟨t_306, t_307, t_5, t_308, by decide +kernel⟩
theorem f_X_begin : cvF y_X_begin "DeficitNet" b_X_begin 2 none 0 := ⟨t_303, s_3, t_1, t_304, by decide +kernel⟩
theorem f_A_isBefore : cvF y_A_isBefore "DeficitNet$Agenda" b_A_isBefore 3 (some .boolean) 2 := ⟨t_318, t_319, t_5, t_320, by decide +kernel⟩
theorem f_A_firstSlot : cvF y_A_firstSlot "DeficitNet$Agenda" b_A_firstSlot 3 (some .int) 0 := ⟨t_314, t_315, t_5, t_316, by decide +kernel⟩
theorem f_A_unset : cvF y_A_unset "DeficitNet$Agenda" b_A_unset 2 none 1 := ⟨t_322, t_323, t_5, t_324, by decide +kernel⟩
theorem f_X_remember : cvF y_X_remember "DeficitNet" b_X_remember 4 none 3 := ⟨t_331, s_6, t_1, t_332, by decide +kernel⟩
theorem f_M_min : csF y_M_min b_M_min 2 (some .int) 2 := ⟨t_343, t_9, t_344, by decide +kernel⟩
theorem f_X_hasTimer : cvF y_X_hasTimer "DeficitNet" b_X_hasTimer 2 (some .boolean) 1 := ⟨t_347, s_8, t_1, t_348, by decide +kernel⟩
theorem f_K_enter : cvF y_K_enter "DeficitNet$Packet" b_K_enter 5 none 4 := ⟨t_358, t_359, t_4, t_360, by decide +kernel⟩
theorem f_X_make : cvF y_X_make "DeficitNet" b_X_make 5 (some .int) 3 := ⟨t_355, s_10, t_1, t_356, by decide +kernel⟩
theorem f_X_way : cvF y_X_way "DeficitNet" b_X_way 5 (some .int) 2 := ⟨t_366, t_367, t_1, t_368, by decide +kernel⟩
theorem f_X_queuedOf : cvF y_X_queuedOf "DeficitNet" b_X_queuedOf 5 (some .int) 2 := ⟨t_371, s_12, t_1, t_372, by decide +kernel⟩
theorem f_P_serveFirst : cvF y_P_serveFirst "DeficitNet$Port" b_P_serveFirst 1 none 0 := ⟨t_382, t_383, t_2, t_384, by decide +kernel⟩
theorem f_X_firstPlaceOf : cvF y_X_firstPlaceOf "DeficitNet" b_X_firstPlaceOf 4 (some .int) 2 := ⟨t_387, s_14, t_1, t_388, by decide +kernel⟩
theorem f_P_dropFirst : cvF y_P_dropFirst "DeficitNet$Port" b_P_dropFirst 1 none 0 := ⟨t_395, t_396, t_2, t_397, by decide +kernel⟩
theorem f_P_append : cvF y_P_append "DeficitNet$Port" b_P_append 2 none 1 := ⟨t_374, t_375, t_2, t_376, by decide +kernel⟩
theorem f_P_takeFrom : cvF y_P_takeFrom "DeficitNet$Port" b_P_takeFrom 3 (some .int) 1 := ⟨t_390, t_391, t_2, t_392, by decide +kernel⟩
theorem f_X_choose : cvF y_X_choose "DeficitNet" b_X_choose 6 none 1 := ⟨t_379, s_13, t_1, t_380, by decide +kernel⟩
theorem f_X_put : cvF y_X_put "DeficitNet" b_X_put 6 none 2 := ⟨t_363, s_11, t_1, t_364, by decide +kernel⟩
theorem f_X_setTimer : cvF y_X_setTimer "DeficitNet" b_X_setTimer 2 none 1 := ⟨t_351, s_9, t_1, t_352, by decide +kernel⟩
theorem f_X_fill : cvF y_X_fill "DeficitNet" b_X_fill 5 none 1 := ⟨t_340, s_7, t_1, t_341, by decide +kernel⟩
theorem f_X_start : cvF y_X_start "DeficitNet" b_X_start 2 none 1 := ⟨t_327, s_5, t_1, t_328, by decide +kernel⟩
theorem f_K_label : cvF y_K_label "DeficitNet$Packet" b_K_label 1 (some .int) 0 := ⟨t_403, t_404, t_4, t_405, by decide +kernel⟩
theorem f_X_leave : cvF y_X_leave "DeficitNet" b_X_leave 4 none 1 := ⟨t_400, s_15, t_1, t_401, by decide +kernel⟩
theorem f_M_max : csF y_M_max b_M_max 2 (some .int) 2 := ⟨t_419, t_9, t_420, by decide +kernel⟩
theorem f_X_moveBase : cvF y_X_moveBase "DeficitNet" b_X_moveBase 4 none 2 := ⟨t_416, s_18, t_1, t_417, by decide +kernel⟩
theorem f_X_takeData : cvF y_X_takeData "DeficitNet" b_X_takeData 4 none 2 := ⟨t_412, s_17, t_1, t_413, by decide +kernel⟩
theorem f_X_arrive : cvF y_X_arrive "DeficitNet" b_X_arrive 4 none 1 := ⟨t_408, s_16, t_1, t_409, by decide +kernel⟩
theorem f_X_timeOut : cvF y_X_timeOut "DeficitNet" b_X_timeOut 3 none 1 := ⟨t_423, s_19, t_1, t_424, by decide +kernel⟩
theorem f_X_happen : cvF y_X_happen "DeficitNet" b_X_happen 3 (some .boolean) 0 := ⟨t_311, s_4, t_1, t_312, by decide +kernel⟩
theorem f_X_step : cvF y_X_step "DeficitNet" b_X_step 1 (some .boolean) 0 := ⟨t_298, t_299, t_1, t_300, by decide +kernel⟩
theorem f_X_run : cvF y_X_run "DeficitNet" b_X_run 3 (some .int) 1 := ⟨t_426, t_427, t_1, t_428, by decide +kernel⟩
theorem f_X_now : cvF y_X_now "DeficitNet" b_X_now 1 (some .int) 0 := ⟨t_430, t_431, t_1, t_432, by decide +kernel⟩
theorem f_X_trace : cvF y_X_trace "DeficitNet" b_X_trace 2 (some .long) 1 := ⟨t_434, t_435, t_1, t_436, by decide +kernel⟩
theorem f_X_distance : cvF y_X_distance "DeficitNet" b_X_distance 3 (some .int) 2 := ⟨t_438, t_439, t_1, t_440, by decide +kernel⟩
theorem f_X_waiting : cvF y_X_waiting "DeficitNet" b_X_waiting 3 (some .int) 2 := ⟨t_443, t_444, t_1, t_445, by decide +kernel⟩
theorem f_X_deficit : cvF y_X_deficit "DeficitNet" b_X_deficit 3 (some .int) 2 := ⟨t_447, t_448, t_1, t_449, by decide +kernel⟩
theorem f_X_onPort : cvF y_X_onPort "DeficitNet" b_X_onPort 3 (some .int) 1 := ⟨t_451, t_452, t_1, t_453, by decide +kernel⟩
theorem f_X_timer : cvF y_X_timer "DeficitNet" b_X_timer 2 (some .int) 1 := ⟨t_455, t_456, t_1, t_457, by decide +kernel⟩
theorem f_X_count : cvF y_X_count "DeficitNet" b_X_count 3 (some .int) 2 := ⟨t_459, t_460, t_1, t_461, by decide +kernel⟩
theorem f_Y_lesser : csF y_Y_lesser b_Y_lesser 2 (some .int) 2 := ⟨t_478, t_7, t_479, by decide +kernel⟩
theorem f_Y_measure : cvF y_Y_measure "DeficitNetModel" b_Y_measure 4 none 0 := ⟨t_474, s_20, t_7, t_475, by decide +kernel⟩
theorem f_Y_clear : cvF y_Y_clear "DeficitNetModel" b_Y_clear 2 none 0 := ⟨t_469, t_470, t_7, t_471, by decide +kernel⟩
theorem f_Y_node : csF y_Y_node b_Y_node 1 (some .boolean) 1 := ⟨t_608, t_7, t_609, by decide +kernel⟩
theorem f_Y_within : csF y_Y_within b_Y_within 3 (some .boolean) 3 := ⟨t_611, t_7, t_612, by decide +kernel⟩
theorem f_Y_link : cvF y_Y_link "DeficitNetModel" b_Y_link 7 (some .int) 5 := ⟨t_604, t_605, t_7, t_606, by decide +kernel⟩
theorem f_Y_isPort : cvF y_Y_isPort "DeficitNetModel" b_Y_isPort 2 (some .boolean) 1 := ⟨t_619, s_21, t_7, t_620, by decide +kernel⟩
theorem f_Y_isFlow : cvF y_Y_isFlow "DeficitNetModel" b_Y_isFlow 2 (some .boolean) 1 := ⟨t_631, s_22, t_7, t_632, by decide +kernel⟩
theorem f_Y_shape : cvF y_Y_shape "DeficitNetModel" b_Y_shape 4 (some .boolean) 3 := ⟨t_614, t_615, t_7, t_616, by decide +kernel⟩
theorem f_Y_flow : cvF y_Y_flow "DeficitNetModel" b_Y_flow 6 (some .int) 4 := ⟨t_622, t_623, t_7, t_624, by decide +kernel⟩
theorem f_Y_tune : cvF y_Y_tune "DeficitNetModel" b_Y_tune 5 (some .boolean) 4 := ⟨t_626, t_627, t_7, t_628, by decide +kernel⟩
theorem f_Y_distance : cvF y_Y_distance "DeficitNetModel" b_Y_distance 3 (some .int) 2 := ⟨t_634, t_635, t_7, t_636, by decide +kernel⟩
theorem f_Y_at : cvF y_Y_at "DeficitNetModel" b_Y_at 2 (some .int) 1 := ⟨t_644, s_23, t_7, t_645, by decide +kernel⟩
theorem f_Y_leads : cvF y_Y_leads "DeficitNetModel" b_Y_leads 2 (some .int) 1 := ⟨t_648, s_24, t_7, t_649, by decide +kernel⟩
theorem f_Y_way : cvF y_Y_way "DeficitNetModel" b_Y_way 4 (some .int) 2 := ⟨t_638, t_639, t_7, t_640, by decide +kernel⟩
theorem f_Y_sizeOf : cvF y_Y_sizeOf "DeficitNetModel" b_Y_sizeOf 2 (some .int) 1 := ⟨t_720, s_39, t_7, t_721, by decide +kernel⟩
theorem f_Y_endOf : cvF y_Y_endOf "DeficitNetModel" b_Y_endOf 2 (some .int) 1 := ⟨t_691, s_32, t_7, t_692, by decide +kernel⟩
theorem f_Y_queued : cvF y_Y_queued "DeficitNetModel" b_Y_queued 5 (some .int) 2 := ⟨t_696, s_33, t_7, t_697, by decide +kernel⟩
theorem f_Y_on : cvF y_Y_on "DeficitNetModel" b_Y_on 4 (some .int) 1 := ⟨t_704, s_35, t_7, t_705, by decide +kernel⟩
theorem f_Y_lose : cvF y_Y_lose "DeficitNetModel" b_Y_lose 2 none 1 := ⟨t_700, s_34, t_7, t_701, by decide +kernel⟩
theorem f_Y_leader : cvF y_Y_leader "DeficitNetModel" b_Y_leader 4 (some .int) 1 := ⟨t_712, s_37, t_7, t_713, by decide +kernel⟩
theorem f_Y_head : cvF y_Y_head "DeficitNetModel" b_Y_head 5 (some .int) 2 := ⟨t_716, s_38, t_7, t_717, by decide +kernel⟩
theorem f_Y_choose : cvF y_Y_choose "DeficitNetModel" b_Y_choose 6 none 1 := ⟨t_708, s_36, t_7, t_709, by decide +kernel⟩
theorem f_Y_put : cvF y_Y_put "DeficitNetModel" b_Y_put 5 none 2 := ⟨t_687, s_31, t_7, t_688, by decide +kernel⟩
theorem f_Y_make : cvF y_Y_make "DeficitNetModel" b_Y_make 6 none 4 := ⟨t_683, s_30, t_7, t_684, by decide +kernel⟩
theorem f_Y_setTimeout : cvF y_Y_setTimeout "DeficitNetModel" b_Y_setTimeout 2 none 1 := ⟨t_679, s_29, t_7, t_680, by decide +kernel⟩
theorem f_Y_fill : cvF y_Y_fill "DeficitNetModel" b_Y_fill 3 none 1 := ⟨t_675, s_28, t_7, t_676, by decide +kernel⟩
theorem f_Y_arrive : cvF y_Y_arrive "DeficitNetModel" b_Y_arrive 5 none 1 := ⟨t_728, s_41, t_7, t_729, by decide +kernel⟩
theorem f_Y_begin : cvF y_Y_begin "DeficitNetModel" b_Y_begin 2 none 0 := ⟨t_656, s_25, t_7, t_657, by decide +kernel⟩
theorem f_Y_note : cvF y_Y_note "DeficitNetModel" b_Y_note 4 none 3 := ⟨t_668, s_27, t_7, t_669, by decide +kernel⟩
theorem f_Y_sooner : csF y_Y_sooner b_Y_sooner 6 (some .long) 3 := ⟨t_663, t_7, t_664, by decide +kernel⟩
theorem f_Y_soonest : cvF y_Y_soonest "DeficitNetModel" b_Y_soonest 4 (some .long) 0 := ⟨t_660, s_26, t_7, t_661, by decide +kernel⟩
theorem f_Y_moved : cvF y_Y_moved "DeficitNetModel" b_Y_moved 4 none 1 := ⟨t_724, s_40, t_7, t_725, by decide +kernel⟩
theorem f_Y_step : cvF y_Y_step "DeficitNetModel" b_Y_step 5 (some .boolean) 0 := ⟨t_651, t_652, t_7, t_653, by decide +kernel⟩
theorem f_Y_run : cvF y_Y_run "DeficitNetModel" b_Y_run 3 (some .int) 1 := ⟨t_731, t_732, t_7, t_733, by decide +kernel⟩
theorem f_Y_now : cvF y_Y_now "DeficitNetModel" b_Y_now 1 (some .int) 0 := ⟨t_736, t_737, t_7, t_738, by decide +kernel⟩
theorem f_Y_trace : cvF y_Y_trace "DeficitNetModel" b_Y_trace 2 (some .long) 1 := ⟨t_740, t_741, t_7, t_742, by decide +kernel⟩
theorem f_Y_waiting : cvF y_Y_waiting "DeficitNetModel" b_Y_waiting 3 (some .int) 2 := ⟨t_745, t_746, t_7, t_747, by decide +kernel⟩
theorem f_Y_deficit : cvF y_Y_deficit "DeficitNetModel" b_Y_deficit 3 (some .int) 2 := ⟨t_749, t_750, t_7, t_751, by decide +kernel⟩
theorem f_Y_onPort : cvF y_Y_onPort "DeficitNetModel" b_Y_onPort 3 (some .int) 1 := ⟨t_753, t_754, t_7, t_755, by decide +kernel⟩
theorem f_Y_timer : cvF y_Y_timer "DeficitNetModel" b_Y_timer 2 (some .int) 1 := ⟨t_757, t_758, t_7, t_759, by decide +kernel⟩
theorem f_Y_count : cvF y_Y_count "DeficitNetModel" b_Y_count 3 (some .int) 2 := ⟨t_761, t_762, t_7, t_763, by decide +kernel⟩
theorem acw : Cond.native arraycopyName ∈ wT ∧ Cond.static arraycopyName ∈ wT ∧ Cond.initialized "java/lang/System" ∈ wT := ⟨t_335, t_334, t_8⟩
theorem sw_out0_6 {x : Int32} (h0 : ¬ x = (0 : Int32)) (h1 : ¬ x = (1 : Int32)) (h2 : ¬ x = (2 : Int32)) (h3 : ¬ x = (3 : Int32)) (h4 : ¬ x = (4 : Int32)) (h5 : ¬ x = (5 : Int32)) (h6 : ¬ x = (6 : Int32)) : x.toInt < 0 ∨ 6 < x.toInt := by
  rcases Int.lt_or_le x.toInt 0 with h | h
  · exact Or.inl h
  rcases Int.lt_or_le 6 x.toInt with h9 | h9
  · exact Or.inr h9
  exfalso
  have hh : x.toInt = 0 ∨ x.toInt = 1 ∨ x.toInt = 2 ∨ x.toInt = 3 ∨ x.toInt = 4 ∨ x.toInt = 5 ∨ x.toInt = 6 := by omega
  rcases hh with e | e | e | e | e | e | e
  · exact h0 (Int32.toInt_inj.mp (e.trans (by decide)))
  · exact h1 (Int32.toInt_inj.mp (e.trans (by decide)))
  · exact h2 (Int32.toInt_inj.mp (e.trans (by decide)))
  · exact h3 (Int32.toInt_inj.mp (e.trans (by decide)))
  · exact h4 (Int32.toInt_inj.mp (e.trans (by decide)))
  · exact h5 (Int32.toInt_inj.mp (e.trans (by decide)))
  · exact h6 (Int32.toInt_inj.mp (e.trans (by decide)))
theorem sw_out1_3 {x : Int32} (h1 : ¬ x = (1 : Int32)) (h2 : ¬ x = (2 : Int32)) (h3 : ¬ x = (3 : Int32)) : x.toInt < 1 ∨ 3 < x.toInt := by
  rcases Int.lt_or_le x.toInt 1 with h | h
  · exact Or.inl h
  rcases Int.lt_or_le 3 x.toInt with h9 | h9
  · exact Or.inr h9
  exfalso
  have hh : x.toInt = 1 ∨ x.toInt = 2 ∨ x.toInt = 3 := by omega
  rcases hh with e | e | e
  · exact h1 (Int32.toInt_inj.mp (e.trans (by decide)))
  · exact h2 (Int32.toInt_inj.mp (e.trans (by decide)))
  · exact h3 (Int32.toInt_inj.mp (e.trans (by decide)))
end
section
def dn_X_isNode (x0 : Int32) : Option Int32 :=
  if x0 < 0 then
    (bz (0 : Int32)).bind fun _ =>
    some (0 : Int32)
  else
    if (8 : Int32) ≤ x0 then
      (bz (0 : Int32)).bind fun _ =>
      some (0 : Int32)
    else
      (bz (1 : Int32)).bind fun _ =>
      some (1 : Int32)
abbrev rm_X_isNode : Room := { frames := 0, cells := 0, slots := 0, locals := 0 }
def dn_X_isWithin (x0 : Int32) (x1 : Int32) (x2 : Int32) : Option Int32 :=
  if x0 < x1 then
    (bz (0 : Int32)).bind fun _ =>
    some (0 : Int32)
  else
    if x2 < x0 then
      (bz (0 : Int32)).bind fun _ =>
      some (0 : Int32)
    else
      (bz (1 : Int32)).bind fun _ =>
      some (1 : Int32)
abbrev rm_X_isWithin : Room := { frames := 0, cells := 0, slots := 0, locals := 0 }
def dn_J_fillX7_5 (k20 : Mem → Option Mem) : Nat → Nat → Int32 → Int32 → Int32 → Mem → Option Mem
  | 0, _, _, _, _, _ => none
  | n + 1, x0, x1, x2, x3, z =>
    if x3 ≤ x2 then
      k20 z
    else
      (aix 6 x2).bind fun j1 =>
      stM (pI z 7 x0 j1 x1) fun z2 =>
      dn_J_fillX7_5 k20 n x0 x1 (x2 + (1 : Int32)) x3 z2
def dn_J_fillX7 (x0 : Nat) (x1 : Int32) (z : Mem) : Option Mem :=
  dn_J_fillX7_5 (fun z3 =>
      some z3) FU x0 x1 (0 : Int32) (6 : Int32) z
abbrev rm_J_fillX7 : Room := { frames := 0, cells := 0, slots := 0, locals := 0 }
def dn_P_lay (x0 : Nat) (x1 : Int32) (x2 : Int32) (x3 : Int32) (x4 : Int32) (x5 : Int32) (z : Mem) : Option Mem :=
  stM (pI z 4 x0 0 x1) fun z1 =>
  stM (pI z1 4 x0 1 x2) fun z2 =>
  stM (pI z2 4 x0 2 x3) fun z3 =>
  stM (pI z3 4 x0 3 x4) fun z4 =>
  stM (pI z4 4 x0 4 x5) fun z5 =>
  stM (pI z5 4 x0 5 (8 : Int32)) fun z6 =>
  stM (pI z6 4 x0 6 (4 : Int32)) fun z7 =>
  stM (pI z7 4 x0 7 (-1 : Int32)) fun z8 =>
  stM (pI z8 4 x0 8 (0 : Int32)) fun z9 =>
  stM (pI z9 4 x0 9 (0 : Int32)) fun z10 =>
  (bz (0 : Int32)).bind fun _ =>
  stM (pI z10 4 x0 10 (0 : Int32)) fun z12 =>
  (dn_J_fillX7 x0 (0 : Int32) z12).bind fun z13 =>
  some z13
abbrev rm_P_lay : Room := { frames := 1, cells := 0, slots := 0, locals := 23 }
def dn_X_shortenOver_13 (k119 : Int32 → Int32 → Int32 → Int32 → Mem → Option Mem) : Nat → Int32 → Int32 → Int32 → Int32 → Int32 → Mem → Option Mem
  | 0, _, _, _, _, _, _ => none
  | n + 1, x1, x2, x3, x4, x5, z =>
    if (8 : Int32) ≤ x5 then
      k119 x1 x2 x3 x4 z
    else
      (aix 8 x4).bind fun j1 =>
      (aix 8 x1).bind fun j2 =>
      if (z.1 2 j1 j2) = (-1 : Int32) then
        dn_X_shortenOver_13 k119 n x1 x2 x3 x4 (x5 + (1 : Int32)) z
      else
        (aix 8 x2).bind fun j3 =>
        (aix 8 x5).bind fun j4 =>
        if (z.1 2 j3 j4) = (-1 : Int32) then
          dn_X_shortenOver_13 k119 n x1 x2 x3 x4 (x5 + (1 : Int32)) z
        else
          (aix 8 x4).bind fun j5 =>
          (aix 8 x1).bind fun j6 =>
          (aix 8 x2).bind fun j7 =>
          (aix 8 x5).bind fun j8 =>
          stV (((z.1 2 j5 j6) + x3) + (z.1 2 j7 j8)) fun v9 =>
          (aix 8 x4).bind fun j10 =>
          (aix 8 x5).bind fun j11 =>
          if (z.1 2 j10 j11) = (-1 : Int32) then
            (aix 8 x4).bind fun j12 =>
            (aix 8 x5).bind fun j13 =>
            stM (pI z 2 j12 j13 v9) fun z14 =>
            dn_X_shortenOver_13 k119 n x1 x2 x3 x4 (x5 + (1 : Int32)) z14
          else
            (aix 8 x4).bind fun j15 =>
            (aix 8 x5).bind fun j16 =>
            if (z.1 2 j15 j16) ≤ v9 then
              dn_X_shortenOver_13 k119 n x1 x2 x3 x4 (x5 + (1 : Int32)) z
            else
              (aix 8 x4).bind fun j17 =>
              (aix 8 x5).bind fun j18 =>
              stM (pI z 2 j17 j18 v9) fun z19 =>
              dn_X_shortenOver_13 k119 n x1 x2 x3 x4 (x5 + (1 : Int32)) z19
def dn_X_shortenOver_3 (k125 : Mem → Option Mem) : Nat → Int32 → Int32 → Int32 → Int32 → Mem → Option Mem
  | 0, _, _, _, _, _ => none
  | n + 1, x1, x2, x3, x4, z =>
    if (8 : Int32) ≤ x4 then
      k125 z
    else
      dn_X_shortenOver_13 (fun x1 x2 x3 x4 z20 =>
          dn_X_shortenOver_3 k125 n x1 x2 x3 (x4 + (1 : Int32)) z20) FU x1 x2 x3 x4 (0 : Int32) z
def dn_X_shortenOver (x1 : Int32) (x2 : Int32) (x3 : Int32) (z : Mem) : Option Mem :=
  dn_X_shortenOver_3 (fun z21 =>
      some z21) FU x1 x2 x3 (0 : Int32) z
abbrev rm_X_shortenOver : Room := { frames := 0, cells := 0, slots := 0, locals := 0 }
def dn_X_link (x1 : Int32) (x2 : Int32) (x3 : Int32) (x4 : Int32) (x5 : Int32) (z : Mem) : Option (Int32 × Mem) :=
  if (z.1 0 0 9) = 0 then
    if (12 : Int32) ≤ (z.1 0 0 6) then
      some ((-1 : Int32), z)
    else
      (dn_X_isNode x1).bind fun v1 =>
      if v1 = 0 then
        some ((-1 : Int32), z)
      else
        (dn_X_isNode x2).bind fun v2 =>
        if v2 = 0 then
          some ((-1 : Int32), z)
        else
          if x1 = x2 then
            some ((-1 : Int32), z)
          else
            (dn_X_isWithin x3 (1 : Int32) (100 : Int32)).bind fun v3 =>
            if v3 = 0 then
              some ((-1 : Int32), z)
            else
              (dn_X_isWithin x4 (1 : Int32) (16 : Int32)).bind fun v4 =>
              if v4 = 0 then
                some ((-1 : Int32), z)
              else
                (dn_X_isWithin x5 (0 : Int32) (40 : Int32)).bind fun v5 =>
                if v5 = 0 then
                  some ((-1 : Int32), z)
                else
                  (aix 24 ((2 : Int32) * (z.1 0 0 6))).bind fun j6 =>
                  (dn_P_lay j6 x1 x2 x3 x4 x5 z).bind fun z7 =>
                  (aix 24 (((2 : Int32) * (z.1 0 0 6)) + (1 : Int32))).bind fun j8 =>
                  (dn_P_lay j8 x2 x1 x3 x4 x5 z7).bind fun z9 =>
                  stM (pI z9 0 0 6 ((z9.1 0 0 6) + (1 : Int32))) fun z10 =>
                  (dn_X_shortenOver x1 x2 x3 z10).bind fun z11 =>
                  (dn_X_shortenOver x2 x1 x3 z11).bind fun z12 =>
                  some ((z.1 0 0 6), z12)
  else
    some ((-1 : Int32), z)
abbrev rm_X_link : Room := { frames := 2, cells := 0, slots := 0, locals := 48 }
def dn_X_isPort (x1 : Int32) (z : Mem) : Option (Int32 × Mem) :=
  (dn_X_isWithin x1 (0 : Int32) (((2 : Int32) * (z.1 0 0 6)) - (1 : Int32))).bind fun v1 =>
  (bz v1).bind fun _ =>
  some (v1, z)
abbrev rm_X_isPort : Room := { frames := 1, cells := 0, slots := 0, locals := 22 }
def dn_X_shape (x1 : Int32) (x2 : Int32) (x3 : Int32) (z : Mem) : Option (Int32 × Mem) :=
  if (z.1 0 0 9) = 0 then
    (dn_X_isPort x1 z).bind fun r2 =>
    if r2.1 = 0 then
      (bz (0 : Int32)).bind fun _ =>
      some ((0 : Int32), r2.2)
    else
      (dn_X_isWithin x2 (1 : Int32) (16 : Int32)).bind fun v4 =>
      if v4 = 0 then
        (bz (0 : Int32)).bind fun _ =>
        some ((0 : Int32), r2.2)
      else
        (dn_X_isWithin x3 (1 : Int32) (8 : Int32)).bind fun v6 =>
        if v6 = 0 then
          (bz (0 : Int32)).bind fun _ =>
          some ((0 : Int32), r2.2)
        else
          (aix 24 x1).bind fun j7 =>
          stM (pI r2.2 4 j7 5 x2) fun z8 =>
          (aix 24 x1).bind fun j9 =>
          stM (pI z8 4 j9 6 x3) fun z10 =>
          (bz (1 : Int32)).bind fun _ =>
          some ((1 : Int32), z10)
  else
    (bz (0 : Int32)).bind fun _ =>
    some ((0 : Int32), z)
abbrev rm_X_shape : Room := { frames := 2, cells := 0, slots := 0, locals := 43 }
def dn_F_found (x0 : Nat) (x1 : Int32) (x2 : Int32) (x3 : Int32) (x4 : Int32) (z : Mem) : Option Mem :=
  stM (pI z 9 x0 0 x1) fun z1 =>
  stM (pI z1 9 x0 1 x2) fun z2 =>
  stM (pI z2 9 x0 2 x3) fun z3 =>
  stM (pI z3 9 x0 3 x4) fun z4 =>
  stM (pI z4 9 x0 4 (4 : Int32)) fun z5 =>
  stM (pI z5 9 x0 5 (100 : Int32)) fun z6 =>
  stM (pI z6 9 x0 6 (0 : Int32)) fun z7 =>
  stM (pI z7 9 x0 7 (0 : Int32)) fun z8 =>
  stM (pI z8 9 x0 8 (0 : Int32)) fun z9 =>
  stM (pI z9 9 x0 9 (0 : Int32)) fun z10 =>
  stM (pI z10 9 x0 10 (0 : Int32)) fun z11 =>
  stM (pI z11 9 x0 11 (0 : Int32)) fun z12 =>
  stM (pI z12 9 x0 12 (0 : Int32)) fun z13 =>
  stM (pI z13 9 x0 13 (0 : Int32)) fun z14 =>
  some z14
abbrev rm_F_found : Room := { frames := 0, cells := 0, slots := 0, locals := 0 }
def dn_X_flow (x1 : Int32) (x2 : Int32) (x3 : Int32) (x4 : Int32) (z : Mem) : Option (Int32 × Mem) :=
  if (z.1 0 0 9) = 0 then
    if (6 : Int32) ≤ (z.1 0 0 7) then
      some ((-1 : Int32), z)
    else
      (dn_X_isNode x1).bind fun v1 =>
      if v1 = 0 then
        some ((-1 : Int32), z)
      else
        (dn_X_isNode x2).bind fun v2 =>
        if v2 = 0 then
          some ((-1 : Int32), z)
        else
          if x1 = x2 then
            some ((-1 : Int32), z)
          else
            (dn_X_isWithin x3 (1 : Int32) (100 : Int32)).bind fun v3 =>
            if v3 = 0 then
              some ((-1 : Int32), z)
            else
              (dn_X_isWithin x4 (1 : Int32) (8 : Int32)).bind fun v4 =>
              if v4 = 0 then
                some ((-1 : Int32), z)
              else
                (aix 6 (z.1 0 0 7)).bind fun j5 =>
                (dn_F_found j5 x1 x2 x3 x4 z).bind fun z6 =>
                stM (pI z6 0 0 7 ((z6.1 0 0 7) + (1 : Int32))) fun z7 =>
                some ((z.1 0 0 7), z7)
  else
    some ((-1 : Int32), z)
abbrev rm_X_flow : Room := { frames := 1, cells := 0, slots := 0, locals := 24 }
def dn_X_isFlow (x1 : Int32) (z : Mem) : Option (Int32 × Mem) :=
  (dn_X_isWithin x1 (0 : Int32) ((z.1 0 0 7) - (1 : Int32))).bind fun v1 =>
  (bz v1).bind fun _ =>
  some (v1, z)
abbrev rm_X_isFlow : Room := { frames := 1, cells := 0, slots := 0, locals := 22 }
def dn_X_tune (x1 : Int32) (x2 : Int32) (x3 : Int32) (x4 : Int32) (z : Mem) : Option (Int32 × Mem) :=
  if (z.1 0 0 9) = 0 then
    (dn_X_isFlow x1 z).bind fun r2 =>
    if r2.1 = 0 then
      (bz (0 : Int32)).bind fun _ =>
      some ((0 : Int32), r2.2)
    else
      (dn_X_isWithin x2 (1 : Int32) (8 : Int32)).bind fun v4 =>
      if v4 = 0 then
        (bz (0 : Int32)).bind fun _ =>
        some ((0 : Int32), r2.2)
      else
        (dn_X_isWithin x3 (1 : Int32) (200 : Int32)).bind fun v5 =>
        if v5 = 0 then
          (bz (0 : Int32)).bind fun _ =>
          some ((0 : Int32), r2.2)
        else
          (dn_X_isWithin x4 (0 : Int32) (1000 : Int32)).bind fun v7 =>
          if v7 = 0 then
            (bz (0 : Int32)).bind fun _ =>
            some ((0 : Int32), r2.2)
          else
            (aix 6 x1).bind fun j8 =>
            stM (pI r2.2 9 j8 4 x2) fun z9 =>
            (aix 6 x1).bind fun j10 =>
            stM (pI z9 9 j10 5 x3) fun z11 =>
            (aix 6 x1).bind fun j12 =>
            stM (pI z11 9 j12 6 x4) fun z13 =>
            (bz (1 : Int32)).bind fun _ =>
            some ((1 : Int32), z13)
  else
    (bz (0 : Int32)).bind fun _ =>
    some ((0 : Int32), z)
abbrev rm_X_tune : Room := { frames := 2, cells := 0, slots := 0, locals := 43 }
def dn_J_fillX2_5 (k20 : Mem → Option Mem) : Nat → Nat → Int32 → Int32 → Int32 → Mem → Option Mem
  | 0, _, _, _, _, _ => none
  | n + 1, x0, x1, x2, x3, z =>
    if x3 ≤ x2 then
      k20 z
    else
      (aix 8 x2).bind fun j1 =>
      stM (pI z 2 x0 j1 x1) fun z2 =>
      dn_J_fillX2_5 k20 n x0 x1 (x2 + (1 : Int32)) x3 z2
def dn_J_fillX2 (x0 : Nat) (x1 : Int32) (z : Mem) : Option Mem :=
  dn_J_fillX2_5 (fun z3 =>
      some z3) FU x0 x1 (0 : Int32) (8 : Int32) z
abbrev rm_J_fillX2 : Room := { frames := 0, cells := 0, slots := 0, locals := 0 }
def dn_J_fillX13_5 (k20 : Mem → Option Mem) : Nat → Int32 → Int32 → Int32 → Mem → Option Mem
  | 0, _, _, _, _ => none
  | n + 1, x1, x2, x3, z =>
    if x3 ≤ x2 then
      k20 z
    else
      (aix 70 x2).bind fun j1 =>
      stM (pI z 13 0 j1 x1) fun z2 =>
      dn_J_fillX13_5 k20 n x1 (x2 + (1 : Int32)) x3 z2
def dn_J_fillX13 (x1 : Int32) (z : Mem) : Option Mem :=
  dn_J_fillX13_5 (fun z3 =>
      some z3) FU x1 (0 : Int32) (70 : Int32) z
abbrev rm_J_fillX13 : Room := { frames := 0, cells := 0, slots := 0, locals := 0 }
def dn_A_unsetAll (z : Mem) : Option Mem :=
  (dn_J_fillX13 (0 : Int32) z).bind fun z1 =>
  stM (pI z1 12 0 3 (0 : Int32)) fun z2 =>
  some z2
abbrev rm_A_unsetAll : Room := { frames := 1, cells := 0, slots := 0, locals := 23 }
def dn_J_fillX16_6 (k22 : Mem → Option Mem) : Nat → Int64 → Int32 → Int32 → Mem → Option Mem
  | 0, _, _, _, _ => none
  | n + 1, x1, x3, x4, z =>
    if x4 ≤ x3 then
      k22 z
    else
      (aix 16 x3).bind fun j1 =>
      stM (pL z j1 x1) fun z2 =>
      dn_J_fillX16_6 k22 n x1 (x3 + (1 : Int32)) x4 z2
def dn_J_fillX16 (x1 : Int64) (z : Mem) : Option Mem :=
  dn_J_fillX16_6 (fun z3 =>
      some z3) FU x1 (0 : Int32) (16 : Int32) z
abbrev rm_J_fillX16 : Room := { frames := 0, cells := 0, slots := 0, locals := 0 }
def dn_X_clear_22 (k53 : Mem → Option Mem) : Nat → Int32 → Mem → Option Mem
  | 0, _, _ => none
  | n + 1, x1, z =>
    if (8 : Int32) ≤ x1 then
      k53 z
    else
      (aix 8 x1).bind fun j6 =>
      (dn_J_fillX2 j6 (-1 : Int32) z).bind fun z7 =>
      (aix 8 x1).bind fun j8 =>
      (aix 8 x1).bind fun j9 =>
      stM (pI z7 2 j8 j9 (0 : Int32)) fun z10 =>
      dn_X_clear_22 k53 n (x1 + (1 : Int32)) z10
def dn_X_clear_55 (k77 : Mem → Option Mem) : Nat → Int32 → Mem → Option Mem
  | 0, _, _ => none
  | n + 1, x1, z =>
    if (64 : Int32) ≤ x1 then
      k77 z
    else
      (aix 64 x1).bind fun j12 =>
      (bz (0 : Int32)).bind fun _ =>
      stM (pI z 11 j12 0 (0 : Int32)) fun z14 =>
      dn_X_clear_55 k77 n (x1 + (1 : Int32)) z14
def dn_X_clear (z : Mem) : Option Mem :=
  (bz (0 : Int32)).bind fun _ =>
  stM (pI z 0 0 9 (0 : Int32)) fun z2 =>
  stM (pI z2 0 0 8 (0 : Int32)) fun z3 =>
  stM (pI z3 0 0 6 (0 : Int32)) fun z4 =>
  stM (pI z4 0 0 7 (0 : Int32)) fun z5 =>
  dn_X_clear_22 (fun z11 =>
      dn_X_clear_55 (fun z15 =>
          (dn_A_unsetAll z15).bind fun z16 =>
          (dn_J_fillX16 (-1 : Int64) z16).bind fun z17 =>
          some z17) FU (0 : Int32) z11) FU (0 : Int32) z5
abbrev rm_X_clear : Room := { frames := 2, cells := 0, slots := 0, locals := 43 }
def dn_A_set (x1 : Int32) (x2 : Int32) (x3 : Int32) (z : Mem) : Option Mem :=
  (aix 70 x1).bind fun j1 =>
  stM (pI z 13 0 j1 x2) fun z2 =>
  (aix 70 x1).bind fun j3 =>
  stM (pI z2 14 0 j3 x3) fun z4 =>
  (aix 70 x1).bind fun j5 =>
  stM (pI z4 15 0 j5 (z4.1 12 0 3)) fun z6 =>
  stM (pI z6 12 0 3 ((z6.1 12 0 3) + (1 : Int32))) fun z7 =>
  some z7
abbrev rm_A_set : Room := { frames := 0, cells := 0, slots := 0, locals := 0 }
def dn_X_begin_15 (k47 : Mem → Option Mem) : Nat → Int32 → Mem → Option Mem
  | 0, _, _ => none
  | n + 1, x1, z =>
    if (z.1 0 0 7) ≤ x1 then
      k47 z
    else
      (aix 6 x1).bind fun j3 =>
      (dn_A_set x1 (1 : Int32) (z.1 9 j3 6) z).bind fun z4 =>
      dn_X_begin_15 k47 n (x1 + (1 : Int32)) z4
def dn_X_begin (z : Mem) : Option Mem :=
  if (z.1 0 0 9) = 0 then
    (bz (1 : Int32)).bind fun _ =>
    stM (pI z 0 0 9 (1 : Int32)) fun z2 =>
    dn_X_begin_15 (fun z5 =>
        some z5) FU (0 : Int32) z2
  else
    some z
abbrev rm_X_begin : Room := { frames := 1, cells := 0, slots := 0, locals := 23 }
def dn_A_isBefore (x1 : Int32) (x2 : Int32) (z : Mem) : Option (Int32 × Mem) :=
  (aix 70 x1).bind fun j1 =>
  (aix 70 x2).bind fun j2 =>
  if (z.1 14 0 j1) < (z.1 14 0 j2) then
    (bz (1 : Int32)).bind fun _ =>
    some ((1 : Int32), z)
  else
    (aix 70 x1).bind fun j4 =>
    (aix 70 x2).bind fun j5 =>
    if (z.1 14 0 j4) = (z.1 14 0 j5) then
      (aix 70 x1).bind fun j7 =>
      (aix 70 x2).bind fun j8 =>
      if (z.1 15 0 j8) ≤ (z.1 15 0 j7) then
        (bz (0 : Int32)).bind fun _ =>
        some ((0 : Int32), z)
      else
        (bz (1 : Int32)).bind fun _ =>
        some ((1 : Int32), z)
    else
      (bz (0 : Int32)).bind fun _ =>
      some ((0 : Int32), z)
abbrev rm_A_isBefore : Room := { frames := 0, cells := 0, slots := 0, locals := 0 }
def dn_A_firstSlot_4 (k41 : Int32 → Mem → Option (Int32 × Mem)) : Nat → Int32 → Int32 → Mem → Option (Int32 × Mem)
  | 0, _, _, _ => none
  | n + 1, x1, x2, z =>
    if (70 : Int32) ≤ x2 then
      k41 x1 z
    else
      (aix 70 x2).bind fun j1 =>
      if (z.1 13 0 j1) = 0 then
        dn_A_firstSlot_4 k41 n x1 (x2 + (1 : Int32)) z
      else
        if x1 = (-1 : Int32) then
          dn_A_firstSlot_4 k41 n x2 (x2 + (1 : Int32)) z
        else
          (dn_A_isBefore x2 x1 z).bind fun r2 =>
          if r2.1 = 0 then
            dn_A_firstSlot_4 k41 n x1 (x2 + (1 : Int32)) r2.2
          else
            dn_A_firstSlot_4 k41 n x2 (x2 + (1 : Int32)) r2.2
def dn_A_firstSlot (z : Mem) : Option (Int32 × Mem) :=
  dn_A_firstSlot_4 (fun x1 z3 =>
      some (x1, z3)) FU (-1 : Int32) (0 : Int32) z
abbrev rm_A_firstSlot : Room := { frames := 1, cells := 0, slots := 0, locals := 22 }
def dn_A_unset (x1 : Int32) (z : Mem) : Option Mem :=
  (aix 70 x1).bind fun j1 =>
  stM (pI z 13 0 j1 (0 : Int32)) fun z2 =>
  some z2
abbrev rm_A_unset : Room := { frames := 0, cells := 0, slots := 0, locals := 0 }
def dn_X_remember (x1 : Int32) (x2 : Int32) (x3 : Int32) (z : Mem) : Option Mem :=
  (acp 16 (0 : Int32) (1 : Int32) (15 : Int32)).bind fun _ =>
  stM (cpL z (0 : Int32) (1 : Int32) (15 : Int32)) fun z2 =>
  (aix 16 (0 : Int32)).bind fun j3 =>
  stM (pL z2 j3 ((((((z2.1 0 0 8)).toInt64 * (1048576 : Int64)) + ((x1 * (65536 : Int32))).toInt64) + ((x2 * (256 : Int32))).toInt64) + (x3).toInt64)) fun z4 =>
  some z4
abbrev rm_X_remember : Room := { frames := 1, cells := 0, slots := 0, locals := 60 }
def dn_M_min (x0 : Int32) (x1 : Int32) : Option Int32 :=
  if x1 < x0 then
    some x1
  else
    some x0
abbrev rm_M_min : Room := { frames := 0, cells := 0, slots := 0, locals := 0 }
def dn_X_hasTimer (x1 : Int32) (z : Mem) : Option (Int32 × Mem) :=
  (aix 70 x1).bind fun j1 =>
  if (z.1 13 0 j1) = (4 : Int32) then
    (bz (1 : Int32)).bind fun _ =>
    some ((1 : Int32), z)
  else
    (bz (0 : Int32)).bind fun _ =>
    some ((0 : Int32), z)
abbrev rm_X_hasTimer : Room := { frames := 0, cells := 0, slots := 0, locals := 0 }
def dn_K_enter (x0 : Nat) (x1 : Int32) (x2 : Int32) (x3 : Int32) (x4 : Nat) (z : Mem) : Option Mem :=
  (bz (1 : Int32)).bind fun _ =>
  stM (pI z 11 x0 0 (1 : Int32)) fun z2 =>
  (bz x3).bind fun _ =>
  stM (pI z2 11 x0 1 x3) fun z4 =>
  stM (pI z4 11 x0 2 x1) fun z5 =>
  stM (pI z5 11 x0 3 x2) fun z6 =>
  if x3 = 0 then
    stM (pI z6 11 x0 4 (z6.1 9 x4 3)) fun z7 =>
    if x3 = 0 then
      stM (pI z7 11 x0 5 (z7.1 9 x4 1)) fun z8 =>
      some z8
    else
      stM (pI z7 11 x0 5 (z7.1 9 x4 0)) fun z9 =>
      some z9
  else
    stM (pI z6 11 x0 4 (1 : Int32)) fun z10 =>
    if x3 = 0 then
      stM (pI z10 11 x0 5 (z10.1 9 x4 1)) fun z11 =>
      some z11
    else
      stM (pI z10 11 x0 5 (z10.1 9 x4 0)) fun z12 =>
      some z12
abbrev rm_K_enter : Room := { frames := 0, cells := 0, slots := 0, locals := 0 }
def dn_X_make_18 (k38 : Int32 → Int32 → Int32 → Int32 → Mem → Option (Int32 × Mem)) (k66 : Int32 → Mem → Option (Int32 × Mem)) : Nat → Int32 → Int32 → Int32 → Int32 → Mem → Option (Int32 × Mem)
  | 0, _, _, _, _, _ => none
  | n + 1, x1, x2, x3, x4, z =>
    if (64 : Int32) ≤ x4 then
      k66 x1 z
    else
      (aix 64 x4).bind fun j3 =>
      if (z.1 11 j3 0) = 0 then
        k38 x1 x2 x3 x4 z
      else
        dn_X_make_18 k38 k66 n x1 x2 x3 (x4 + (1 : Int32)) z
def dn_X_make (x1 : Int32) (x2 : Int32) (x3 : Int32) (z : Mem) : Option (Int32 × Mem) :=
  (aix 6 x1).bind fun j1 =>
  stM (pI z 9 j1 10 ((z.1 9 j1 10) + (1 : Int32))) fun z2 =>
  dn_X_make_18 (fun x1 x2 x3 x4 z4 =>
      (aix 64 x4).bind fun j5 =>
      (aix 6 x1).bind fun j6 =>
      (dn_K_enter j5 x1 x2 x3 j6 z4).bind fun z7 =>
      some (x4, z7)) (fun x1 z8 =>
      (aix 6 x1).bind fun j9 =>
      stM (pI z8 9 j9 12 ((z8.1 9 j9 12) + (1 : Int32))) fun z10 =>
      some ((-1 : Int32), z10)) FU x1 x2 x3 (0 : Int32) z2
abbrev rm_X_make : Room := { frames := 1, cells := 0, slots := 0, locals := 24 }
def dn_X_way_35 (k91 : Int32 → Mem → Option (Int32 × Mem)) (k99 : Mem → Option (Int32 × Mem)) : Nat → Int32 → Int32 → Int32 → Mem → Option (Int32 × Mem)
  | 0, _, _, _, _ => none
  | n + 1, x1, x2, x3, z =>
    if ((2 : Int32) * (z.1 0 0 6)) ≤ x3 then
      k99 z
    else
      (aix 24 x3).bind fun j5 =>
      if (z.1 4 j5 0) = x1 then
        (aix 8 (z.1 4 j5 1)).bind fun j6 =>
        (aix 8 x2).bind fun j7 =>
        (aix 8 x1).bind fun j8 =>
        (aix 8 x2).bind fun j9 =>
        if ((z.1 4 j5 2) + (z.1 2 j6 j7)) = (z.1 2 j8 j9) then
          k91 x3 z
        else
          dn_X_way_35 k91 k99 n x1 x2 (x3 + (1 : Int32)) z
      else
        dn_X_way_35 k91 k99 n x1 x2 (x3 + (1 : Int32)) z
def dn_X_way (x1 : Int32) (x2 : Int32) (z : Mem) : Option (Int32 × Mem) :=
  (dn_X_isNode x1).bind fun v1 =>
  if v1 = 0 then
    some ((-1 : Int32), z)
  else
    (dn_X_isNode x2).bind fun v2 =>
    if v2 = 0 then
      some ((-1 : Int32), z)
    else
      if x1 = x2 then
        some ((-1 : Int32), z)
      else
        (aix 8 x1).bind fun j3 =>
        (aix 8 x2).bind fun j4 =>
        if (z.1 2 j3 j4) = (-1 : Int32) then
          some ((-1 : Int32), z)
        else
          dn_X_way_35 (fun x3 z10 =>
              some (x3, z10)) (fun z11 =>
              some ((-1 : Int32), z11)) FU x1 x2 (0 : Int32) z
abbrev rm_X_way : Room := { frames := 1, cells := 0, slots := 0, locals := 20 }
def dn_X_queuedOf_5 (k42 : Int32 → Mem → Option (Int32 × Mem)) : Nat → Nat → Int32 → Int32 → Int32 → Mem → Option (Int32 × Mem)
  | 0, _, _, _, _, _ => none
  | n + 1, x1, x2, x3, x4, z =>
    if (z.1 4 x1 8) ≤ x4 then
      k42 x3 z
    else
      (aix 8 x4).bind fun j1 =>
      (aix 64 (z.1 5 x1 j1)).bind fun j2 =>
      if (z.1 11 j2 2) = x2 then
        dn_X_queuedOf_5 k42 n x1 x2 (x3 + (1 : Int32)) (x4 + (1 : Int32)) z
      else
        dn_X_queuedOf_5 k42 n x1 x2 x3 (x4 + (1 : Int32)) z
def dn_X_queuedOf (x1 : Nat) (x2 : Int32) (z : Mem) : Option (Int32 × Mem) :=
  dn_X_queuedOf_5 (fun x3 z3 =>
      some (x3, z3)) FU x1 x2 (0 : Int32) (0 : Int32) z
abbrev rm_X_queuedOf : Room := { frames := 0, cells := 0, slots := 0, locals := 0 }
def dn_P_serveFirst (x0 : Nat) (z : Mem) : Option Mem :=
  if (z.1 4 x0 10) = 0 then
    (aix 6 (0 : Int32)).bind fun j1 =>
    (aix 6 (z.1 6 x0 j1)).bind fun j2 =>
    (aix 6 (z.1 6 x0 j1)).bind fun j3 =>
    stM (pI z 7 x0 j3 ((z.1 7 x0 j2) + (z.1 4 x0 5))) fun z4 =>
    (bz (1 : Int32)).bind fun _ =>
    stM (pI z4 4 x0 10 (1 : Int32)) fun z6 =>
    some z6
  else
    some z
abbrev rm_P_serveFirst : Room := { frames := 0, cells := 0, slots := 0, locals := 0 }
def dn_X_firstPlaceOf_2 (k36 : Int32 → Mem → Option (Int32 × Mem)) : Nat → Nat → Int32 → Int32 → Mem → Option (Int32 × Mem)
  | 0, _, _, _, _ => none
  | n + 1, x1, x2, x3, z =>
    if ((z.1 4 x1 8) - (1 : Int32)) ≤ x3 then
      k36 x3 z
    else
      (aix 8 x3).bind fun j1 =>
      (aix 64 (z.1 5 x1 j1)).bind fun j2 =>
      if (z.1 11 j2 2) = x2 then
        k36 x3 z
      else
        dn_X_firstPlaceOf_2 k36 n x1 x2 (x3 + (1 : Int32)) z
def dn_X_firstPlaceOf (x1 : Nat) (x2 : Int32) (z : Mem) : Option (Int32 × Mem) :=
  dn_X_firstPlaceOf_2 (fun x3 z3 =>
      some (x3, z3)) FU x1 x2 (0 : Int32) z
abbrev rm_X_firstPlaceOf : Room := { frames := 0, cells := 0, slots := 0, locals := 0 }
def dn_P_dropFirst (x0 : Nat) (z : Mem) : Option Mem :=
  if (z.1 4 x0 9) ≤ 0 then
    some z
  else
    stM (pI z 4 x0 9 ((z.1 4 x0 9) - (1 : Int32))) fun z1 =>
    (acp 6 (1 : Int32) (0 : Int32) (z1.1 4 x0 9)).bind fun _ =>
    stM (cpI z1 6 x0 (1 : Int32) (0 : Int32) (z1.1 4 x0 9)) fun z3 =>
    (bz (0 : Int32)).bind fun _ =>
    stM (pI z3 4 x0 10 (0 : Int32)) fun z5 =>
    some z5
abbrev rm_P_dropFirst : Room := { frames := 1, cells := 0, slots := 0, locals := 60 }
def dn_P_append (x0 : Nat) (x1 : Int32) (z : Mem) : Option Mem :=
  if (6 : Int32) ≤ (z.1 4 x0 9) then
    some z
  else
    (aix 6 (z.1 4 x0 9)).bind fun j1 =>
    stM (pI z 6 x0 j1 x1) fun z2 =>
    stM (pI z2 4 x0 9 ((z2.1 4 x0 9) + (1 : Int32))) fun z3 =>
    some z3
abbrev rm_P_append : Room := { frames := 0, cells := 0, slots := 0, locals := 0 }
def dn_P_takeFrom (x0 : Nat) (x1 : Int32) (z : Mem) : Option (Int32 × Mem) :=
  (aix 8 x1).bind fun j1 =>
  stM (pI z 4 x0 8 ((z.1 4 x0 8) - (1 : Int32))) fun z2 =>
  (acp 8 (x1 + (1 : Int32)) x1 ((z2.1 4 x0 8) - x1)).bind fun _ =>
  stM (cpI z2 5 x0 (x1 + (1 : Int32)) x1 ((z2.1 4 x0 8) - x1)) fun z4 =>
  some ((z.1 5 x0 j1), z4)
abbrev rm_P_takeFrom : Room := { frames := 1, cells := 0, slots := 0, locals := 60 }
def dn_X_choose_2 (k62 : Nat → Int32 → Int32 → Nat → Mem → Option Mem) (k152 : Mem → Option Mem) : Nat → Nat → Int32 → Mem → Option Mem
  | 0, _, _, _ => none
  | n + 1, x1, x2, z =>
    if (54 : Int32) ≤ x2 then
      k152 z
    else
      if (z.1 4 x1 8) ≤ 0 then
        k152 z
      else
        (aix 6 (0 : Int32)).bind fun j1 =>
        (dn_P_serveFirst x1 z).bind fun z2 =>
        (dn_X_firstPlaceOf x1 (z.1 6 x1 j1) z2).bind fun r3 =>
        (aix 8 r3.1).bind fun j4 =>
        (aix 64 (r3.2.1 5 x1 j4)).bind fun j5 =>
        (aix 6 (z.1 6 x1 j1)).bind fun j6 =>
        if (r3.2.1 7 x1 j6) < (r3.2.1 11 j5 4) then
          (dn_P_dropFirst x1 r3.2).bind fun z7 =>
          (dn_P_append x1 (z.1 6 x1 j1) z7).bind fun z8 =>
          dn_X_choose_2 k62 k152 n x1 (x2 + (1 : Int32)) z8
        else
          k62 x1 (z.1 6 x1 j1) r3.1 j5 r3.2
def dn_X_choose (x1 : Nat) (z : Mem) : Option Mem :=
  dn_X_choose_2 (fun x1 x3 x4 x5 z9 =>
      (aix 6 x3).bind fun j10 =>
      (aix 6 x3).bind fun j11 =>
      stM (pI z9 7 x1 j11 ((z9.1 7 x1 j10) - (z9.1 11 x5 4))) fun z12 =>
      (dn_P_takeFrom x1 x4 z12).bind fun r13 =>
      stM (pI r13.2 4 x1 7 r13.1) fun z14 =>
      (dn_A_set ((6 : Int32) + (z14.1 4 x1 7)) (2 : Int32) ((z14.1 0 0 8) + ((z14.1 11 x5 4) * (z14.1 4 x1 3))) z14).bind fun z15 =>
      (dn_X_queuedOf x1 x3 z15).bind fun r16 =>
      if r16.1 = 0 then
        (dn_P_dropFirst x1 r16.2).bind fun z17 =>
        (aix 6 x3).bind fun j18 =>
        stM (pI z17 7 x1 j18 (0 : Int32)) fun z19 =>
        some z19
      else
        some r16.2) (fun z20 =>
      some z20) FU x1 (0 : Int32) z
abbrev rm_X_choose : Room := { frames := 2, cells := 0, slots := 0, locals := 82 }
def dn_X_put (x1 : Int32) (x2 : Int32) (z : Mem) : Option Mem :=
  if x1 = (-1 : Int32) then
    some z
  else
    (aix 64 x1).bind fun j1 =>
    (dn_X_way x2 (z.1 11 j1 5) z).bind fun r2 =>
    if r2.1 = (-1 : Int32) then
      (bz (0 : Int32)).bind fun _ =>
      stM (pI r2.2 11 j1 0 (0 : Int32)) fun z4 =>
      (aix 6 (z4.1 11 j1 2)).bind fun j5 =>
      stM (pI z4 9 j5 12 ((z4.1 9 j5 12) + (1 : Int32))) fun z6 =>
      some z6
    else
      (aix 24 r2.1).bind fun j7 =>
      (aix 24 r2.1).bind fun j8 =>
      if (r2.2.1 4 j7 8) < (r2.2.1 4 j8 6) then
        (aix 24 r2.1).bind fun j9 =>
        stM (pI r2.2 11 j1 6 r2.1) fun z10 =>
        (dn_X_queuedOf j9 (z10.1 11 j1 2) z10).bind fun r11 =>
        if r11.1 = 0 then
          (dn_P_append j9 (r11.2.1 11 j1 2) r11.2).bind fun z16 =>
          (aix 8 (z16.1 4 j9 8)).bind fun j17 =>
          stM (pI z16 5 j9 j17 x1) fun z18 =>
          stM (pI z18 4 j9 8 ((z18.1 4 j9 8) + (1 : Int32))) fun z19 =>
          if (z19.1 4 j9 7) = (-1 : Int32) then
            (dn_X_choose j9 z19).bind fun z20 =>
            some z20
          else
            some z19
        else
          (aix 8 (r11.2.1 4 j9 8)).bind fun j12 =>
          stM (pI r11.2 5 j9 j12 x1) fun z13 =>
          stM (pI z13 4 j9 8 ((z13.1 4 j9 8) + (1 : Int32))) fun z14 =>
          if (z14.1 4 j9 7) = (-1 : Int32) then
            (dn_X_choose j9 z14).bind fun z15 =>
            some z15
          else
            some z14
      else
        (bz (0 : Int32)).bind fun _ =>
        stM (pI r2.2 11 j1 0 (0 : Int32)) fun z22 =>
        (aix 6 (z22.1 11 j1 2)).bind fun j23 =>
        stM (pI z22 9 j23 12 ((z22.1 9 j23 12) + (1 : Int32))) fun z24 =>
        some z24
abbrev rm_X_put : Room := { frames := 3, cells := 0, slots := 0, locals := 107 }
def dn_X_setTimer (x1 : Int32) (z : Mem) : Option Mem :=
  (aix 6 x1).bind fun j1 =>
  (dn_A_set x1 (4 : Int32) ((z.1 0 0 8) + (z.1 9 j1 5)) z).bind fun z2 =>
  some z2
abbrev rm_X_setTimer : Room := { frames := 1, cells := 0, slots := 0, locals := 23 }
def dn_X_fill_30 (k79 : Mem → Option Mem) : Nat → Int32 → Nat → Int32 → Int32 → Mem → Option Mem
  | 0, _, _, _, _, _ => none
  | n + 1, x1, x2, x3, x4, z =>
    if x3 ≤ x4 then
      k79 z
    else
      (dn_X_hasTimer x1 z).bind fun r3 =>
      if r3.1 = 0 then
        (dn_X_setTimer x1 r3.2).bind fun z7 =>
        (dn_X_make x1 x4 (0 : Int32) z7).bind fun r8 =>
        (dn_X_put r8.1 (r8.2.1 9 x2 0) r8.2).bind fun z9 =>
        stM (pI z9 9 x2 8 (x4 + (1 : Int32))) fun z10 =>
        dn_X_fill_30 k79 n x1 x2 x3 (x4 + (1 : Int32)) z10
      else
        (dn_X_make x1 x4 (0 : Int32) r3.2).bind fun r4 =>
        (dn_X_put r4.1 (r4.2.1 9 x2 0) r4.2).bind fun z5 =>
        stM (pI z5 9 x2 8 (x4 + (1 : Int32))) fun z6 =>
        dn_X_fill_30 k79 n x1 x2 x3 (x4 + (1 : Int32)) z6
def dn_X_fill (x1 : Int32) (z : Mem) : Option Mem :=
  (aix 6 x1).bind fun j1 =>
  (dn_M_min ((z.1 9 j1 7) + (z.1 9 j1 4)) (z.1 9 j1 2)).bind fun v2 =>
  dn_X_fill_30 (fun z11 =>
      some z11) FU x1 j1 v2 (z.1 9 j1 8) z
abbrev rm_X_fill : Room := { frames := 4, cells := 0, slots := 0, locals := 132 }
def dn_X_start (x1 : Int32) (z : Mem) : Option Mem :=
  (aix 6 x1).bind fun j1 =>
  (dn_X_remember (1 : Int32) x1 (z.1 9 j1 8) z).bind fun z2 =>
  (dn_X_fill x1 z2).bind fun z3 =>
  some z3
abbrev rm_X_start : Room := { frames := 5, cells := 0, slots := 0, locals := 156 }
def dn_K_label (x0 : Nat) (z : Mem) : Option (Int32 × Mem) :=
  if (z.1 11 x0 1) = 0 then
    some ((z.1 11 x0 3), z)
  else
    some (((z.1 11 x0 3) + (128 : Int32)), z)
abbrev rm_K_label : Room := { frames := 0, cells := 0, slots := 0, locals := 0 }
def dn_X_leave (x1 : Int32) (z : Mem) : Option Mem :=
  (aix 64 x1).bind fun j1 =>
  (aix 24 (z.1 11 j1 6)).bind fun j2 =>
  (dn_K_label j1 z).bind fun r3 =>
  (dn_X_remember (2 : Int32) (z.1 11 j1 6) r3.1 r3.2).bind fun z4 =>
  stM (pI z4 4 j2 7 (-1 : Int32)) fun z5 =>
  (dn_A_set ((6 : Int32) + x1) (3 : Int32) ((z5.1 0 0 8) + (z5.1 4 j2 4)) z5).bind fun z6 =>
  if (z6.1 4 j2 8) ≤ 0 then
    some z6
  else
    (dn_X_choose j2 z6).bind fun z7 =>
    some z7
abbrev rm_X_leave : Room := { frames := 3, cells := 0, slots := 0, locals := 107 }
def dn_M_max (x0 : Int32) (x1 : Int32) : Option Int32 :=
  if x0 < x1 then
    some x1
  else
    some x0
abbrev rm_M_max : Room := { frames := 0, cells := 0, slots := 0, locals := 0 }
def dn_X_moveBase (x1 : Int32) (x2 : Int32) (z : Mem) : Option Mem :=
  (aix 6 x1).bind fun j1 =>
  stM (pI z 9 j1 7 x2) fun z2 =>
  (dn_M_max (z2.1 9 j1 8) x2).bind fun v3 =>
  stM (pI z2 9 j1 8 v3) fun z4 =>
  (dn_A_unset x1 z4).bind fun z5 =>
  if (z5.1 9 j1 8) ≤ (z5.1 9 j1 7) then
    some z5
  else
    (dn_X_setTimer x1 z5).bind fun z6 =>
    some z6
abbrev rm_X_moveBase : Room := { frames := 2, cells := 0, slots := 0, locals := 44 }
def dn_X_takeData (x1 : Int32) (x2 : Int32) (z : Mem) : Option Mem :=
  (aix 6 x1).bind fun j1 =>
  if x2 = (z.1 9 j1 9) then
    stM (pI z 9 j1 9 ((z.1 9 j1 9) + (1 : Int32))) fun z4 =>
    (dn_X_make x1 (z4.1 9 j1 9) (1 : Int32) z4).bind fun r5 =>
    (dn_X_put r5.1 (r5.2.1 9 j1 1) r5.2).bind fun z6 =>
    some z6
  else
    (dn_X_make x1 (z.1 9 j1 9) (1 : Int32) z).bind fun r2 =>
    (dn_X_put r2.1 (r2.2.1 9 j1 1) r2.2).bind fun z3 =>
    some z3
abbrev rm_X_takeData : Room := { frames := 4, cells := 0, slots := 0, locals := 132 }
def dn_X_arrive (x1 : Int32) (z : Mem) : Option Mem :=
  (aix 64 x1).bind fun j1 =>
  (aix 24 (z.1 11 j1 6)).bind fun j2 =>
  (dn_K_label j1 z).bind fun r3 =>
  (dn_X_remember (3 : Int32) (z.1 4 j2 1) r3.1 r3.2).bind fun z4 =>
  if (z.1 4 j2 1) = (z4.1 11 j1 5) then
    (bz (0 : Int32)).bind fun _ =>
    stM (pI z4 11 j1 0 (0 : Int32)) fun z6 =>
    (aix 6 (z6.1 11 j1 2)).bind fun j7 =>
    stM (pI z6 9 j7 11 ((z6.1 9 j7 11) + (1 : Int32))) fun z8 =>
    if (z8.1 11 j1 1) = 0 then
      (dn_X_takeData (z8.1 11 j1 2) (z8.1 11 j1 3) z8).bind fun z12 =>
      some z12
    else
      (aix 6 (z8.1 11 j1 2)).bind fun j9 =>
      if (z8.1 11 j1 3) ≤ (z8.1 9 j9 7) then
        some z8
      else
        (dn_X_moveBase (z8.1 11 j1 2) (z8.1 11 j1 3) z8).bind fun z10 =>
        (dn_X_fill (z10.1 11 j1 2) z10).bind fun z11 =>
        some z11
  else
    (dn_X_put x1 (z.1 4 j2 1) z4).bind fun z13 =>
    some z13
abbrev rm_X_arrive : Room := { frames := 5, cells := 0, slots := 0, locals := 156 }
def dn_X_timeOut (x1 : Int32) (z : Mem) : Option Mem :=
  (aix 6 x1).bind fun j1 =>
  (dn_X_remember (4 : Int32) x1 (z.1 9 j1 7) z).bind fun z2 =>
  stM (pI z2 9 j1 13 ((z2.1 9 j1 13) + (1 : Int32))) fun z3 =>
  stM (pI z3 9 j1 8 (z3.1 9 j1 7)) fun z4 =>
  (dn_X_fill x1 z4).bind fun z5 =>
  some z5
abbrev rm_X_timeOut : Room := { frames := 5, cells := 0, slots := 0, locals := 156 }
def dn_X_happen (z : Mem) : Option (Int32 × Mem) :=
  (dn_A_firstSlot z).bind fun r1 =>
  if r1.1 = (-1 : Int32) then
    (bz (0 : Int32)).bind fun _ =>
    some ((0 : Int32), r1.2)
  else
    (aix 70 r1.1).bind fun j2 =>
    stM (pI r1.2 0 0 8 (r1.2.1 14 0 j2)) fun z3 =>
    (aix 70 r1.1).bind fun j4 =>
    (dn_A_unset r1.1 z3).bind fun z5 =>
    if (z3.1 13 0 j4) = (1 : Int32) then
      (dn_X_start r1.1 z5).bind fun z6 =>
      (bz (1 : Int32)).bind fun _ =>
      some ((1 : Int32), z6)
    else if (z3.1 13 0 j4) = (2 : Int32) then
      (dn_X_leave (r1.1 - (6 : Int32)) z5).bind fun z8 =>
      (bz (1 : Int32)).bind fun _ =>
      some ((1 : Int32), z8)
    else if (z3.1 13 0 j4) = (3 : Int32) then
      (dn_X_arrive (r1.1 - (6 : Int32)) z5).bind fun z10 =>
      (bz (1 : Int32)).bind fun _ =>
      some ((1 : Int32), z10)
    else 
      (dn_X_timeOut r1.1 z5).bind fun z12 =>
      (bz (1 : Int32)).bind fun _ =>
      some ((1 : Int32), z12)
abbrev rm_X_happen : Room := { frames := 6, cells := 0, slots := 0, locals := 179 }
def dn_X_step (z : Mem) : Option (Int32 × Mem) :=
  (dn_X_begin z).bind fun z1 =>
  (dn_X_happen z1).bind fun r2 =>
  (bz r2.1).bind fun _ =>
  some (r2.1, r2.2)
abbrev rm_X_step : Room := { frames := 7, cells := 0, slots := 0, locals := 201 }
def dn_X_run_22 (k40 : Int32 → Mem → Option (Int32 × Mem)) : Nat → Int32 → Int32 → Mem → Option (Int32 × Mem)
  | 0, _, _, _ => none
  | n + 1, x1, x2, z =>
    if x1 ≤ x2 then
      k40 x2 z
    else
      (dn_X_happen z).bind fun r2 =>
      if r2.1 = 0 then
        k40 x2 r2.2
      else
        dn_X_run_22 k40 n x1 (x2 + (1 : Int32)) r2.2
def dn_X_run (x1 : Int32) (z : Mem) : Option (Int32 × Mem) :=
  (dn_X_isWithin x1 (0 : Int32) (50 : Int32)).bind fun v1 =>
  if v1 = 0 then
    some ((-1 : Int32), z)
  else
    if x1 ≤ 0 then
      dn_X_run_22 (fun x2 z3 =>
          some (x2, z3)) FU x1 (0 : Int32) z
    else
      (dn_X_begin z).bind fun z4 =>
      dn_X_run_22 (fun x2 z5 =>
          some (x2, z5)) FU x1 (0 : Int32) z4
abbrev rm_X_run : Room := { frames := 7, cells := 0, slots := 0, locals := 201 }
def dn_X_now (z : Mem) : Option (Int32 × Mem) :=
  some ((z.1 0 0 8), z)
abbrev rm_X_now : Room := { frames := 0, cells := 0, slots := 0, locals := 0 }
def dn_X_trace (x1 : Int32) (z : Mem) : Option (Int64 × Mem) :=
  (dn_X_isWithin x1 (0 : Int32) (15 : Int32)).bind fun v1 =>
  if v1 = 0 then
    some ((-1 : Int64), z)
  else
    (aix 16 x1).bind fun j2 =>
    some ((z.2 j2), z)
abbrev rm_X_trace : Room := { frames := 1, cells := 0, slots := 0, locals := 22 }
def dn_X_distance (x1 : Int32) (x2 : Int32) (z : Mem) : Option (Int32 × Mem) :=
  (dn_X_isNode x1).bind fun v1 =>
  if v1 = 0 then
    some ((-1 : Int32), z)
  else
    (dn_X_isNode x2).bind fun v2 =>
    if v2 = 0 then
      some ((-1 : Int32), z)
    else
      (aix 8 x1).bind fun j3 =>
      (aix 8 x2).bind fun j4 =>
      some ((z.1 2 j3 j4), z)
abbrev rm_X_distance : Room := { frames := 1, cells := 0, slots := 0, locals := 20 }
def dn_X_waiting (x1 : Int32) (x2 : Int32) (z : Mem) : Option (Int32 × Mem) :=
  (dn_X_isPort x1 z).bind fun r1 =>
  if r1.1 = 0 then
    some ((-1 : Int32), r1.2)
  else
    if x2 = (-1 : Int32) then
      (aix 24 x1).bind fun j5 =>
      some ((r1.2.1 4 j5 8), r1.2)
    else
      (dn_X_isFlow x2 r1.2).bind fun r2 =>
      if r2.1 = 0 then
        some ((-1 : Int32), r2.2)
      else
        (aix 24 x1).bind fun j3 =>
        (dn_X_queuedOf j3 x2 r2.2).bind fun r4 =>
        some (r4.1, r4.2)
abbrev rm_X_waiting : Room := { frames := 2, cells := 0, slots := 0, locals := 43 }
def dn_X_deficit (x1 : Int32) (x2 : Int32) (z : Mem) : Option (Int32 × Mem) :=
  (dn_X_isPort x1 z).bind fun r1 =>
  if r1.1 = 0 then
    some ((-1 : Int32), r1.2)
  else
    (dn_X_isFlow x2 r1.2).bind fun r2 =>
    if r2.1 = 0 then
      some ((-1 : Int32), r2.2)
    else
      (aix 24 x1).bind fun j3 =>
      (aix 6 x2).bind fun j4 =>
      some ((r2.2.1 7 j3 j4), r2.2)
abbrev rm_X_deficit : Room := { frames := 2, cells := 0, slots := 0, locals := 43 }
def dn_X_onPort (x1 : Int32) (z : Mem) : Option (Int32 × Mem) :=
  (dn_X_isPort x1 z).bind fun r1 =>
  if r1.1 = 0 then
    some ((-1 : Int32), r1.2)
  else
    (aix 24 x1).bind fun j2 =>
    if (r1.2.1 4 j2 7) = (-1 : Int32) then
      some ((-1 : Int32), r1.2)
    else
      (aix 24 x1).bind fun j3 =>
      (aix 64 (r1.2.1 4 j3 7)).bind fun j4 =>
      (dn_K_label j4 r1.2).bind fun r5 =>
      some ((((256 : Int32) * (r1.2.1 11 j4 2)) + r5.1), r5.2)
abbrev rm_X_onPort : Room := { frames := 2, cells := 0, slots := 0, locals := 43 }
def dn_X_timer (x1 : Int32) (z : Mem) : Option (Int32 × Mem) :=
  (dn_X_isFlow x1 z).bind fun r1 =>
  if r1.1 = 0 then
    some ((-1 : Int32), r1.2)
  else
    (dn_X_hasTimer x1 r1.2).bind fun r2 =>
    if r2.1 = 0 then
      some ((-1 : Int32), r2.2)
    else
      (aix 70 x1).bind fun j3 =>
      some ((r2.2.1 14 0 j3), r2.2)
abbrev rm_X_timer : Room := { frames := 2, cells := 0, slots := 0, locals := 43 }
def dn_X_count (x1 : Int32) (x2 : Int32) (z : Mem) : Option (Int32 × Mem) :=
  (dn_X_isFlow x1 z).bind fun r1 =>
  if r1.1 = 0 then
    some ((-1 : Int32), r1.2)
  else
    if x2 = (0 : Int32) then
      (aix 6 x1).bind fun j2 =>
      some ((r1.2.1 9 j2 7), r1.2)
    else if x2 = (1 : Int32) then
      (aix 6 x1).bind fun j3 =>
      some ((r1.2.1 9 j3 8), r1.2)
    else if x2 = (2 : Int32) then
      (aix 6 x1).bind fun j4 =>
      some ((r1.2.1 9 j4 9), r1.2)
    else if x2 = (3 : Int32) then
      (aix 6 x1).bind fun j5 =>
      some ((r1.2.1 9 j5 10), r1.2)
    else if x2 = (4 : Int32) then
      (aix 6 x1).bind fun j6 =>
      some ((r1.2.1 9 j6 11), r1.2)
    else if x2 = (5 : Int32) then
      (aix 6 x1).bind fun j7 =>
      some ((r1.2.1 9 j7 12), r1.2)
    else if x2 = (6 : Int32) then
      (aix 6 x1).bind fun j8 =>
      some ((r1.2.1 9 j8 13), r1.2)
    else 
      some ((-1 : Int32), r1.2)
abbrev rm_X_count : Room := { frames := 2, cells := 0, slots := 0, locals := 43 }
def dn_Y_lesser (x0 : Int32) (x1 : Int32) : Option Int32 :=
  if x1 ≤ x0 then
    some x1
  else
    some x0
abbrev rm_Y_lesser : Room := { frames := 0, cells := 0, slots := 0, locals := 0 }
def dn_Y_measure_10 (k44 : Int32 → Mem → Option Mem) : Nat → Int32 → Int32 → Mem → Option Mem
  | 0, _, _, _ => none
  | n + 1, x1, x2, z =>
    if (8 : Int32) ≤ x2 then
      k44 x1 z
    else
      if x1 = x2 then
        (aix 64 (((8 : Int32) * x1) + x2)).bind fun j3 =>
        stM (pI z 8 0 j3 (0 : Int32)) fun z4 =>
        dn_Y_measure_10 k44 n x1 (x2 + (1 : Int32)) z4
      else
        (aix 64 (((8 : Int32) * x1) + x2)).bind fun j1 =>
        stM (pI z 8 0 j1 (1000000 : Int32)) fun z2 =>
        dn_Y_measure_10 k44 n x1 (x2 + (1 : Int32)) z2
def dn_Y_measure_2 (k50 : Mem → Option Mem) : Nat → Int32 → Mem → Option Mem
  | 0, _, _ => none
  | n + 1, x1, z =>
    if (8 : Int32) ≤ x1 then
      k50 z
    else
      dn_Y_measure_10 (fun x1 z5 =>
          dn_Y_measure_2 k50 n (x1 + (1 : Int32)) z5) FU x1 (0 : Int32) z
def dn_Y_measure_52 (k142 : Mem → Option Mem) : Nat → Int32 → Mem → Option Mem
  | 0, _, _ => none
  | n + 1, x1, z =>
    if (z.1 0 0 0) ≤ x1 then
      k142 z
    else
      (aix 12 x1).bind fun j7 =>
      (aix 12 x1).bind fun j8 =>
      stV (((8 : Int32) * (z.1 1 0 j7)) + (z.1 2 0 j8)) fun v9 =>
      (aix 12 x1).bind fun j10 =>
      (aix 12 x1).bind fun j11 =>
      stV (((8 : Int32) * (z.1 2 0 j10)) + (z.1 1 0 j11)) fun v12 =>
      (aix 64 v9).bind fun j13 =>
      (aix 12 x1).bind fun j14 =>
      (dn_Y_lesser (z.1 8 0 j13) (z.1 3 0 j14)).bind fun v15 =>
      (aix 64 v9).bind fun j16 =>
      stM (pI z 8 0 j16 v15) fun z17 =>
      (aix 64 v12).bind fun j18 =>
      (aix 12 x1).bind fun j19 =>
      (dn_Y_lesser (z17.1 8 0 j18) (z17.1 3 0 j19)).bind fun v20 =>
      (aix 64 v12).bind fun j21 =>
      stM (pI z17 8 0 j21 v20) fun z22 =>
      dn_Y_measure_52 k142 n (x1 + (1 : Int32)) z22
def dn_Y_measure_160 (k220 : Int32 → Int32 → Mem → Option Mem) : Nat → Int32 → Int32 → Int32 → Mem → Option Mem
  | 0, _, _, _, _ => none
  | n + 1, x1, x2, x3, z =>
    if (8 : Int32) ≤ x3 then
      k220 x1 x2 z
    else
      (aix 64 (((8 : Int32) * x2) + x3)).bind fun j24 =>
      (aix 64 (((8 : Int32) * x2) + x1)).bind fun j25 =>
      (aix 64 (((8 : Int32) * x1) + x3)).bind fun j26 =>
      (dn_Y_lesser (z.1 8 0 j24) ((z.1 8 0 j25) + (z.1 8 0 j26))).bind fun v27 =>
      (aix 64 (((8 : Int32) * x2) + x3)).bind fun j28 =>
      stM (pI z 8 0 j28 v27) fun z29 =>
      dn_Y_measure_160 k220 n x1 x2 (x3 + (1 : Int32)) z29
def dn_Y_measure_152 (k226 : Int32 → Mem → Option Mem) : Nat → Int32 → Int32 → Mem → Option Mem
  | 0, _, _, _ => none
  | n + 1, x1, x2, z =>
    if (8 : Int32) ≤ x2 then
      k226 x1 z
    else
      dn_Y_measure_160 (fun x1 x2 z30 =>
          dn_Y_measure_152 k226 n x1 (x2 + (1 : Int32)) z30) FU x1 x2 (0 : Int32) z
def dn_Y_measure_144 (k232 : Mem → Option Mem) : Nat → Int32 → Mem → Option Mem
  | 0, _, _ => none
  | n + 1, x1, z =>
    if (8 : Int32) ≤ x1 then
      k232 z
    else
      dn_Y_measure_152 (fun x1 z31 =>
          dn_Y_measure_144 k232 n (x1 + (1 : Int32)) z31) FU x1 (0 : Int32) z
def dn_Y_measure (z : Mem) : Option Mem :=
  dn_Y_measure_2 (fun z6 =>
      dn_Y_measure_52 (fun z23 =>
          dn_Y_measure_144 (fun z32 =>
              some z32) FU (0 : Int32) z23) FU (0 : Int32) z6) FU (0 : Int32) z
abbrev rm_Y_measure : Room := { frames := 1, cells := 0, slots := 0, locals := 21 }
def dn_Y_clear_32 (k51 : Mem → Option Mem) : Nat → Int32 → Mem → Option Mem
  | 0, _, _ => none
  | n + 1, x1, z =>
    if (64 : Int32) ≤ x1 then
      k51 z
    else
      (aix 64 x1).bind fun j8 =>
      stM (pI z 24 0 j8 (0 : Int32)) fun z9 =>
      dn_Y_clear_32 k51 n (x1 + (1 : Int32)) z9
def dn_Y_clear (z : Mem) : Option Mem :=
  stM (pI z 0 0 0 (0 : Int32)) fun z1 =>
  stM (pI z1 0 0 9 (0 : Int32)) fun z2 =>
  (bz (0 : Int32)).bind fun _ =>
  stM (pI z2 0 0 35 (0 : Int32)) fun z4 =>
  stM (pI z4 0 0 36 (0 : Int32)) fun z5 =>
  stM (pI z5 0 0 37 (0 : Int32)) fun z6 =>
  stM (pI z6 0 0 38 (0 : Int32)) fun z7 =>
  dn_Y_clear_32 (fun z10 =>
      (dn_Y_measure z10).bind fun z11 =>
      some z11) FU (0 : Int32) z7
abbrev rm_Y_clear : Room := { frames := 2, cells := 0, slots := 0, locals := 44 }
def dn_Y_node (x0 : Int32) : Option Int32 :=
  if x0 < 0 then
    (bz (0 : Int32)).bind fun _ =>
    some (0 : Int32)
  else
    if (7 : Int32) < x0 then
      (bz (0 : Int32)).bind fun _ =>
      some (0 : Int32)
    else
      (bz (1 : Int32)).bind fun _ =>
      some (1 : Int32)
abbrev rm_Y_node : Room := { frames := 0, cells := 0, slots := 0, locals := 0 }
def dn_Y_within (x0 : Int32) (x1 : Int32) (x2 : Int32) : Option Int32 :=
  if x0 < x1 then
    (bz (0 : Int32)).bind fun _ =>
    some (0 : Int32)
  else
    if x2 < x0 then
      (bz (0 : Int32)).bind fun _ =>
      some (0 : Int32)
    else
      (bz (1 : Int32)).bind fun _ =>
      some (1 : Int32)
abbrev rm_Y_within : Room := { frames := 0, cells := 0, slots := 0, locals := 0 }
def dn_Y_link_131 (k167 : Mem → Option (Int32 × Mem)) : Nat → Int32 → Mem → Option (Int32 × Mem)
  | 0, _, _ => none
  | n + 1, x6, z =>
    if (((2 : Int32) * (z.1 0 0 0)) + (1 : Int32)) < x6 then
      k167 z
    else
      (aix 24 x6).bind fun j17 =>
      stM (pI z 6 0 j17 (8 : Int32)) fun z18 =>
      (aix 24 x6).bind fun j19 =>
      stM (pI z18 7 0 j19 (4 : Int32)) fun z20 =>
      dn_Y_link_131 k167 n (x6 + (1 : Int32)) z20
def dn_Y_link (x1 : Int32) (x2 : Int32) (x3 : Int32) (x4 : Int32) (x5 : Int32) (z : Mem) : Option (Int32 × Mem) :=
  if (z.1 0 0 35) = 0 then
    if (z.1 0 0 0) = (12 : Int32) then
      some ((-1 : Int32), z)
    else
      (dn_Y_node x1).bind fun v1 =>
      if v1 = 0 then
        some ((-1 : Int32), z)
      else
        (dn_Y_node x2).bind fun v2 =>
        if v2 = 0 then
          some ((-1 : Int32), z)
        else
          if x1 = x2 then
            some ((-1 : Int32), z)
          else
            (dn_Y_within x3 (1 : Int32) (100 : Int32)).bind fun v3 =>
            if v3 = 0 then
              some ((-1 : Int32), z)
            else
              (dn_Y_within x4 (1 : Int32) (16 : Int32)).bind fun v4 =>
              if v4 = 0 then
                some ((-1 : Int32), z)
              else
                (dn_Y_within x5 (0 : Int32) (40 : Int32)).bind fun v5 =>
                if v5 = 0 then
                  some ((-1 : Int32), z)
                else
                  (aix 12 (z.1 0 0 0)).bind fun j6 =>
                  stM (pI z 1 0 j6 x1) fun z7 =>
                  (aix 12 (z7.1 0 0 0)).bind fun j8 =>
                  stM (pI z7 2 0 j8 x2) fun z9 =>
                  (aix 12 (z9.1 0 0 0)).bind fun j10 =>
                  stM (pI z9 3 0 j10 x3) fun z11 =>
                  (aix 12 (z11.1 0 0 0)).bind fun j12 =>
                  stM (pI z11 4 0 j12 x4) fun z13 =>
                  (aix 12 (z13.1 0 0 0)).bind fun j14 =>
                  stM (pI z13 5 0 j14 x5) fun z15 =>
                  stV ((2 : Int32) * (z15.1 0 0 0)) fun v16 =>
                  dn_Y_link_131 (fun z21 =>
                      stM (pI z21 0 0 0 ((z21.1 0 0 0) + (1 : Int32))) fun z22 =>
                      (dn_Y_measure z22).bind fun z23 =>
                      some (((z23.1 0 0 0) - (1 : Int32)), z23)) FU v16 z15
  else
    some ((-1 : Int32), z)
abbrev rm_Y_link : Room := { frames := 2, cells := 0, slots := 0, locals := 44 }
def dn_Y_isPort (x1 : Int32) (z : Mem) : Option (Int32 × Mem) :=
  if x1 < 0 then
    (bz (0 : Int32)).bind fun _ =>
    some ((0 : Int32), z)
  else
    if ((2 : Int32) * (z.1 0 0 0)) ≤ x1 then
      (bz (0 : Int32)).bind fun _ =>
      some ((0 : Int32), z)
    else
      (bz (1 : Int32)).bind fun _ =>
      some ((1 : Int32), z)
abbrev rm_Y_isPort : Room := { frames := 0, cells := 0, slots := 0, locals := 0 }
def dn_Y_isFlow (x1 : Int32) (z : Mem) : Option (Int32 × Mem) :=
  if x1 < 0 then
    (bz (0 : Int32)).bind fun _ =>
    some ((0 : Int32), z)
  else
    if (z.1 0 0 9) ≤ x1 then
      (bz (0 : Int32)).bind fun _ =>
      some ((0 : Int32), z)
    else
      (bz (1 : Int32)).bind fun _ =>
      some ((1 : Int32), z)
abbrev rm_Y_isFlow : Room := { frames := 0, cells := 0, slots := 0, locals := 0 }
def dn_Y_shape (x1 : Int32) (x2 : Int32) (x3 : Int32) (z : Mem) : Option (Int32 × Mem) :=
  if (z.1 0 0 35) = 0 then
    (dn_Y_isPort x1 z).bind fun r2 =>
    if r2.1 = 0 then
      (bz (0 : Int32)).bind fun _ =>
      some ((0 : Int32), r2.2)
    else
      (dn_Y_within x2 (1 : Int32) (16 : Int32)).bind fun v4 =>
      if v4 = 0 then
        (bz (0 : Int32)).bind fun _ =>
        some ((0 : Int32), r2.2)
      else
        (dn_Y_within x3 (1 : Int32) (8 : Int32)).bind fun v6 =>
        if v6 = 0 then
          (bz (0 : Int32)).bind fun _ =>
          some ((0 : Int32), r2.2)
        else
          (aix 24 x1).bind fun j7 =>
          stM (pI r2.2 6 0 j7 x2) fun z8 =>
          (aix 24 x1).bind fun j9 =>
          stM (pI z8 7 0 j9 x3) fun z10 =>
          (bz (1 : Int32)).bind fun _ =>
          some ((1 : Int32), z10)
  else
    (bz (0 : Int32)).bind fun _ =>
    some ((0 : Int32), z)
abbrev rm_Y_shape : Room := { frames := 1, cells := 0, slots := 0, locals := 22 }
def dn_Y_flow_183 (k210 : Mem → Option (Int32 × Mem)) : Nat → Int32 → Mem → Option (Int32 × Mem)
  | 0, _, _ => none
  | n + 1, x5, z =>
    if (4 : Int32) ≤ x5 then
      k210 z
    else
      (aix 24 (((4 : Int32) * (z.1 0 0 9)) + x5)).bind fun j29 =>
      stM (pI z 23 0 j29 (0 : Int32)) fun z30 =>
      dn_Y_flow_183 k210 n (x5 + (1 : Int32)) z30
def dn_Y_flow (x1 : Int32) (x2 : Int32) (x3 : Int32) (x4 : Int32) (z : Mem) : Option (Int32 × Mem) :=
  if (z.1 0 0 35) = 0 then
    if (z.1 0 0 9) = (6 : Int32) then
      some ((-1 : Int32), z)
    else
      (dn_Y_node x1).bind fun v1 =>
      if v1 = 0 then
        some ((-1 : Int32), z)
      else
        (dn_Y_node x2).bind fun v2 =>
        if v2 = 0 then
          some ((-1 : Int32), z)
        else
          if x1 = x2 then
            some ((-1 : Int32), z)
          else
            (dn_Y_within x3 (1 : Int32) (100 : Int32)).bind fun v3 =>
            if v3 = 0 then
              some ((-1 : Int32), z)
            else
              (dn_Y_within x4 (1 : Int32) (8 : Int32)).bind fun v4 =>
              if v4 = 0 then
                some ((-1 : Int32), z)
              else
                (aix 6 (z.1 0 0 9)).bind fun j5 =>
                stM (pI z 9 0 j5 x1) fun z6 =>
                (aix 6 (z6.1 0 0 9)).bind fun j7 =>
                stM (pI z6 10 0 j7 x2) fun z8 =>
                (aix 6 (z8.1 0 0 9)).bind fun j9 =>
                stM (pI z8 11 0 j9 x3) fun z10 =>
                (aix 6 (z10.1 0 0 9)).bind fun j11 =>
                stM (pI z10 12 0 j11 x4) fun z12 =>
                (aix 6 (z12.1 0 0 9)).bind fun j13 =>
                stM (pI z12 13 0 j13 (4 : Int32)) fun z14 =>
                (aix 6 (z14.1 0 0 9)).bind fun j15 =>
                stM (pI z14 14 0 j15 (100 : Int32)) fun z16 =>
                (aix 6 (z16.1 0 0 9)).bind fun j17 =>
                stM (pI z16 15 0 j17 (0 : Int32)) fun z18 =>
                (aix 6 (z18.1 0 0 9)).bind fun j19 =>
                stM (pI z18 16 0 j19 (0 : Int32)) fun z20 =>
                (aix 6 (z20.1 0 0 9)).bind fun j21 =>
                stM (pI z20 17 0 j21 (0 : Int32)) fun z22 =>
                (aix 6 (z22.1 0 0 9)).bind fun j23 =>
                stM (pI z22 18 0 j23 (0 : Int32)) fun z24 =>
                (aix 6 (z24.1 0 0 9)).bind fun j25 =>
                stM (pI z24 19 0 j25 (-1 : Int32)) fun z26 =>
                (aix 6 (z26.1 0 0 9)).bind fun j27 =>
                stM (pI z26 21 0 j27 (-1 : Int32)) fun z28 =>
                dn_Y_flow_183 (fun z31 =>
                    stM (pI z31 0 0 9 ((z31.1 0 0 9) + (1 : Int32))) fun z32 =>
                    some (((z32.1 0 0 9) - (1 : Int32)), z32)) FU (0 : Int32) z28
  else
    some ((-1 : Int32), z)
abbrev rm_Y_flow : Room := { frames := 1, cells := 0, slots := 0, locals := 22 }
def dn_Y_tune (x1 : Int32) (x2 : Int32) (x3 : Int32) (x4 : Int32) (z : Mem) : Option (Int32 × Mem) :=
  if (z.1 0 0 35) = 0 then
    (dn_Y_isFlow x1 z).bind fun r2 =>
    if r2.1 = 0 then
      (bz (0 : Int32)).bind fun _ =>
      some ((0 : Int32), r2.2)
    else
      (dn_Y_within x2 (1 : Int32) (8 : Int32)).bind fun v4 =>
      if v4 = 0 then
        (bz (0 : Int32)).bind fun _ =>
        some ((0 : Int32), r2.2)
      else
        (dn_Y_within x3 (1 : Int32) (200 : Int32)).bind fun v6 =>
        if v6 = 0 then
          (bz (0 : Int32)).bind fun _ =>
          some ((0 : Int32), r2.2)
        else
          (dn_Y_within x4 (0 : Int32) (1000 : Int32)).bind fun v8 =>
          if v8 = 0 then
            (bz (0 : Int32)).bind fun _ =>
            some ((0 : Int32), r2.2)
          else
            (aix 6 x1).bind fun j9 =>
            stM (pI r2.2 13 0 j9 x2) fun z10 =>
            (aix 6 x1).bind fun j11 =>
            stM (pI z10 14 0 j11 x3) fun z12 =>
            (aix 6 x1).bind fun j13 =>
            stM (pI z12 15 0 j13 x4) fun z14 =>
            (bz (1 : Int32)).bind fun _ =>
            some ((1 : Int32), z14)
  else
    (bz (0 : Int32)).bind fun _ =>
    some ((0 : Int32), z)
abbrev rm_Y_tune : Room := { frames := 1, cells := 0, slots := 0, locals := 22 }
def dn_Y_distance (x1 : Int32) (x2 : Int32) (z : Mem) : Option (Int32 × Mem) :=
  (dn_Y_node x1).bind fun v1 =>
  if v1 = 0 then
    some ((-1 : Int32), z)
  else
    (dn_Y_node x2).bind fun v2 =>
    if v2 = 0 then
      some ((-1 : Int32), z)
    else
      (aix 64 (((8 : Int32) * x1) + x2)).bind fun j3 =>
      if (z.1 8 0 j3) < (1000000 : Int32) then
        (aix 64 (((8 : Int32) * x1) + x2)).bind fun j4 =>
        some ((z.1 8 0 j4), z)
      else
        some ((-1 : Int32), z)
abbrev rm_Y_distance : Room := { frames := 1, cells := 0, slots := 0, locals := 20 }
def dn_Y_at (x1 : Int32) (z : Mem) : Option (Int32 × Mem) :=
  if (x1 - x1 / (2 : Int32) * (2 : Int32)) = 0 then
    (aix 12 (x1 / (2 : Int32))).bind fun j2 =>
    some ((z.1 1 0 j2), z)
  else
    (aix 12 (x1 / (2 : Int32))).bind fun j1 =>
    some ((z.1 2 0 j1), z)
abbrev rm_Y_at : Room := { frames := 0, cells := 0, slots := 0, locals := 0 }
def dn_Y_leads (x1 : Int32) (z : Mem) : Option (Int32 × Mem) :=
  if (x1 - x1 / (2 : Int32) * (2 : Int32)) = 0 then
    (aix 12 (x1 / (2 : Int32))).bind fun j2 =>
    some ((z.1 2 0 j2), z)
  else
    (aix 12 (x1 / (2 : Int32))).bind fun j1 =>
    some ((z.1 1 0 j1), z)
abbrev rm_Y_leads : Room := { frames := 0, cells := 0, slots := 0, locals := 0 }
def dn_Y_way_19 (k76 : Int32 → Mem → Option (Int32 × Mem)) (k84 : Mem → Option (Int32 × Mem)) : Nat → Int32 → Int32 → Int32 → Mem → Option (Int32 × Mem)
  | 0, _, _, _, _ => none
  | n + 1, x1, x2, x3, z =>
    if ((2 : Int32) * (z.1 0 0 0)) ≤ x3 then
      k84 z
    else
      (dn_Y_at x3 z).bind fun r2 =>
      if r2.1 = x1 then
        (aix 12 (x3 / (2 : Int32))).bind fun j3 =>
        (dn_Y_leads x3 r2.2).bind fun r4 =>
        (aix 64 (((8 : Int32) * r4.1) + x2)).bind fun j5 =>
        (aix 64 (((8 : Int32) * x1) + x2)).bind fun j6 =>
        if ((r2.2.1 3 0 j3) + (r4.2.1 8 0 j5)) = (r4.2.1 8 0 j6) then
          k76 x3 r4.2
        else
          dn_Y_way_19 k76 k84 n x1 x2 (x3 + (1 : Int32)) r4.2
      else
        dn_Y_way_19 k76 k84 n x1 x2 (x3 + (1 : Int32)) r2.2
def dn_Y_way (x1 : Int32) (x2 : Int32) (z : Mem) : Option (Int32 × Mem) :=
  if x1 = x2 then
    some ((-1 : Int32), z)
  else
    (dn_Y_distance x1 x2 z).bind fun r1 =>
    if r1.1 = (-1 : Int32) then
      some ((-1 : Int32), r1.2)
    else
      dn_Y_way_19 (fun x3 z7 =>
          some (x3, z7)) (fun z8 =>
          some ((-1 : Int32), z8)) FU x1 x2 (0 : Int32) r1.2
abbrev rm_Y_way : Room := { frames := 2, cells := 0, slots := 0, locals := 42 }
def dn_Y_sizeOf (x1 : Int32) (z : Mem) : Option (Int32 × Mem) :=
  (aix 64 x1).bind fun j1 =>
  if (z.1 27 0 j1) = 0 then
    (aix 64 x1).bind fun j2 =>
    (aix 6 (z.1 25 0 j2)).bind fun j3 =>
    some ((z.1 12 0 j3), z)
  else
    some ((1 : Int32), z)
abbrev rm_Y_sizeOf : Room := { frames := 0, cells := 0, slots := 0, locals := 0 }
def dn_Y_endOf (x1 : Int32) (z : Mem) : Option (Int32 × Mem) :=
  (aix 64 x1).bind fun j1 =>
  if (z.1 27 0 j1) = 0 then
    (aix 64 x1).bind fun j2 =>
    (aix 6 (z.1 25 0 j2)).bind fun j3 =>
    some ((z.1 10 0 j3), z)
  else
    (aix 64 x1).bind fun j4 =>
    (aix 6 (z.1 25 0 j4)).bind fun j5 =>
    some ((z.1 9 0 j5), z)
abbrev rm_Y_endOf : Room := { frames := 0, cells := 0, slots := 0, locals := 0 }
def dn_Y_queued_5 (k64 : Int32 → Mem → Option (Int32 × Mem)) : Nat → Int32 → Int32 → Int32 → Int32 → Mem → Option (Int32 × Mem)
  | 0, _, _, _, _, _ => none
  | n + 1, x1, x2, x3, x4, z =>
    if (64 : Int32) ≤ x4 then
      k64 x3 z
    else
      (aix 64 x4).bind fun j1 =>
      if (z.1 24 0 j1) = (1 : Int32) then
        (aix 64 x4).bind fun j2 =>
        if (z.1 28 0 j2) = x1 then
          if x2 = (-1 : Int32) then
            dn_Y_queued_5 k64 n x1 x2 (x3 + (1 : Int32)) (x4 + (1 : Int32)) z
          else
            (aix 64 x4).bind fun j3 =>
            if (z.1 25 0 j3) = x2 then
              dn_Y_queued_5 k64 n x1 x2 (x3 + (1 : Int32)) (x4 + (1 : Int32)) z
            else
              dn_Y_queued_5 k64 n x1 x2 (x3 + (0 : Int32)) (x4 + (1 : Int32)) z
        else
          dn_Y_queued_5 k64 n x1 x2 (x3 + (0 : Int32)) (x4 + (1 : Int32)) z
      else
        dn_Y_queued_5 k64 n x1 x2 (x3 + (0 : Int32)) (x4 + (1 : Int32)) z
def dn_Y_queued (x1 : Int32) (x2 : Int32) (z : Mem) : Option (Int32 × Mem) :=
  dn_Y_queued_5 (fun x3 z4 =>
      some (x3, z4)) FU x1 x2 (0 : Int32) (0 : Int32) z
abbrev rm_Y_queued : Room := { frames := 0, cells := 0, slots := 0, locals := 0 }
def dn_Y_on_4 (k42 : Int32 → Mem → Option (Int32 × Mem)) : Nat → Int32 → Int32 → Int32 → Mem → Option (Int32 × Mem)
  | 0, _, _, _, _ => none
  | n + 1, x1, x2, x3, z =>
    if (64 : Int32) ≤ x3 then
      k42 x2 z
    else
      (aix 64 x3).bind fun j1 =>
      if (z.1 24 0 j1) = (2 : Int32) then
        (aix 64 x3).bind fun j2 =>
        if (z.1 28 0 j2) = x1 then
          dn_Y_on_4 k42 n x1 x3 (x3 + (1 : Int32)) z
        else
          dn_Y_on_4 k42 n x1 x2 (x3 + (1 : Int32)) z
      else
        dn_Y_on_4 k42 n x1 x2 (x3 + (1 : Int32)) z
def dn_Y_on (x1 : Int32) (z : Mem) : Option (Int32 × Mem) :=
  dn_Y_on_4 (fun x2 z3 =>
      some (x2, z3)) FU x1 (-1 : Int32) (0 : Int32) z
abbrev rm_Y_on : Room := { frames := 0, cells := 0, slots := 0, locals := 0 }
def dn_Y_lose (x1 : Int32) (z : Mem) : Option Mem :=
  (aix 64 x1).bind fun j1 =>
  stM (pI z 24 0 j1 (0 : Int32)) fun z2 =>
  (aix 64 x1).bind fun j3 =>
  (aix 24 (((4 : Int32) * (z2.1 25 0 j3)) + (2 : Int32))).bind fun j4 =>
  (aix 24 (((4 : Int32) * (z2.1 25 0 j3)) + (2 : Int32))).bind fun j5 =>
  stM (pI z2 23 0 j5 ((z2.1 23 0 j4) + (1 : Int32))) fun z6 =>
  some z6
abbrev rm_Y_lose : Room := { frames := 0, cells := 0, slots := 0, locals := 0 }
def dn_Y_leader_4 (k59 : Int32 → Mem → Option (Int32 × Mem)) : Nat → Int32 → Int32 → Int32 → Mem → Option (Int32 × Mem)
  | 0, _, _, _, _ => none
  | n + 1, x1, x2, x3, z =>
    if (z.1 0 0 9) ≤ x3 then
      k59 x2 z
    else
      (dn_Y_queued x1 x3 z).bind fun r1 =>
      if r1.1 ≤ 0 then
        dn_Y_leader_4 k59 n x1 x2 (x3 + (1 : Int32)) r1.2
      else
        if x2 = (-1 : Int32) then
          dn_Y_leader_4 k59 n x1 x3 (x3 + (1 : Int32)) r1.2
        else
          (aix 144 (((6 : Int32) * x1) + x3)).bind fun j2 =>
          (aix 144 (((6 : Int32) * x1) + x2)).bind fun j3 =>
          if (r1.2.1 31 0 j3) ≤ (r1.2.1 31 0 j2) then
            dn_Y_leader_4 k59 n x1 x2 (x3 + (1 : Int32)) r1.2
          else
            dn_Y_leader_4 k59 n x1 x3 (x3 + (1 : Int32)) r1.2
def dn_Y_leader (x1 : Int32) (z : Mem) : Option (Int32 × Mem) :=
  dn_Y_leader_4 (fun x2 z4 =>
      some (x2, z4)) FU x1 (-1 : Int32) (0 : Int32) z
abbrev rm_Y_leader : Room := { frames := 1, cells := 0, slots := 0, locals := 24 }
def dn_Y_head_5 (k75 : Int32 → Mem → Option (Int32 × Mem)) : Nat → Int32 → Int32 → Int32 → Int32 → Mem → Option (Int32 × Mem)
  | 0, _, _, _, _, _ => none
  | n + 1, x1, x2, x3, x4, z =>
    if (64 : Int32) ≤ x4 then
      k75 x3 z
    else
      (aix 64 x4).bind fun j1 =>
      if (z.1 24 0 j1) = (1 : Int32) then
        (aix 64 x4).bind fun j2 =>
        if (z.1 28 0 j2) = x1 then
          (aix 64 x4).bind fun j3 =>
          if (z.1 25 0 j3) = x2 then
            if x3 = (-1 : Int32) then
              dn_Y_head_5 k75 n x1 x2 x4 (x4 + (1 : Int32)) z
            else
              (aix 64 x4).bind fun j4 =>
              (aix 64 x3).bind fun j5 =>
              if (z.1 30 0 j5) ≤ (z.1 30 0 j4) then
                dn_Y_head_5 k75 n x1 x2 x3 (x4 + (1 : Int32)) z
              else
                dn_Y_head_5 k75 n x1 x2 x4 (x4 + (1 : Int32)) z
          else
            dn_Y_head_5 k75 n x1 x2 x3 (x4 + (1 : Int32)) z
        else
          dn_Y_head_5 k75 n x1 x2 x3 (x4 + (1 : Int32)) z
      else
        dn_Y_head_5 k75 n x1 x2 x3 (x4 + (1 : Int32)) z
def dn_Y_head (x1 : Int32) (x2 : Int32) (z : Mem) : Option (Int32 × Mem) :=
  dn_Y_head_5 (fun x3 z6 =>
      some (x3, z6)) FU x1 x2 (-1 : Int32) (0 : Int32) z
abbrev rm_Y_head : Room := { frames := 0, cells := 0, slots := 0, locals := 0 }
def dn_Y_choose_2 (k84 : Int32 → Int32 → Int32 → Mem → Option Mem) (k186 : Mem → Option Mem) : Nat → Int32 → Int32 → Mem → Option Mem
  | 0, _, _, _ => none
  | n + 1, x1, x2, z =>
    if (100 : Int32) ≤ x2 then
      k186 z
    else
      (dn_Y_leader x1 z).bind fun r1 =>
      stV (((6 : Int32) * x1) + r1.1) fun v2 =>
      (aix 144 v2).bind fun j3 =>
      (aix 144 v2).bind fun j4 =>
      if (r1.2.1 33 0 j4) = 0 then
        (aix 24 x1).bind fun j5 =>
        (aix 144 v2).bind fun j6 =>
        stM (pI r1.2 32 0 j6 ((r1.2.1 32 0 j3) + (r1.2.1 6 0 j5))) fun z7 =>
        (bz (1 : Int32)).bind fun _ =>
        (aix 144 v2).bind fun j9 =>
        stM (pI z7 33 0 j9 (1 : Int32)) fun z10 =>
        (dn_Y_head x1 r1.1 z10).bind fun r11 =>
        (dn_Y_sizeOf r11.1 r11.2).bind fun r12 =>
        (aix 144 v2).bind fun j13 =>
        if (r12.2.1 32 0 j13) < r12.1 then
          stM (pI r12.2 0 0 37 ((r12.2.1 0 0 37) + (1 : Int32))) fun z14 =>
          (aix 144 v2).bind fun j15 =>
          stM (pI z14 31 0 j15 ((r12.2.1 0 0 37) + (1 : Int32))) fun z16 =>
          (bz (0 : Int32)).bind fun _ =>
          (aix 144 v2).bind fun j18 =>
          stM (pI z16 33 0 j18 (0 : Int32)) fun z19 =>
          dn_Y_choose_2 k84 k186 n x1 (x2 + (1 : Int32)) z19
        else
          k84 x1 v2 r11.1 r12.2
      else
        (aix 144 v2).bind fun j20 =>
        stM (pI r1.2 32 0 j20 ((r1.2.1 32 0 j3) + (0 : Int32))) fun z21 =>
        (bz (1 : Int32)).bind fun _ =>
        (aix 144 v2).bind fun j23 =>
        stM (pI z21 33 0 j23 (1 : Int32)) fun z24 =>
        (dn_Y_head x1 r1.1 z24).bind fun r25 =>
        (dn_Y_sizeOf r25.1 r25.2).bind fun r26 =>
        (aix 144 v2).bind fun j27 =>
        if (r26.2.1 32 0 j27) < r26.1 then
          stM (pI r26.2 0 0 37 ((r26.2.1 0 0 37) + (1 : Int32))) fun z28 =>
          (aix 144 v2).bind fun j29 =>
          stM (pI z28 31 0 j29 ((r26.2.1 0 0 37) + (1 : Int32))) fun z30 =>
          (bz (0 : Int32)).bind fun _ =>
          (aix 144 v2).bind fun j32 =>
          stM (pI z30 33 0 j32 (0 : Int32)) fun z33 =>
          dn_Y_choose_2 k84 k186 n x1 (x2 + (1 : Int32)) z33
        else
          k84 x1 v2 r25.1 r26.2
def dn_Y_choose (x1 : Int32) (z : Mem) : Option Mem :=
  dn_Y_choose_2 (fun x1 x4 x5 z34 =>
      (aix 144 x4).bind fun j35 =>
      (dn_Y_sizeOf x5 z34).bind fun r36 =>
      (aix 144 x4).bind fun j37 =>
      stM (pI r36.2 32 0 j37 ((z34.1 32 0 j35) - r36.1)) fun z38 =>
      (aix 64 x5).bind fun j39 =>
      stM (pI z38 24 0 j39 (2 : Int32)) fun z40 =>
      (dn_Y_sizeOf x5 z40).bind fun r41 =>
      (aix 12 (x1 / (2 : Int32))).bind fun j42 =>
      (aix 64 x5).bind fun j43 =>
      stM (pI r41.2 29 0 j43 ((z40.1 0 0 36) + (r41.1 * (r41.2.1 4 0 j42)))) fun z44 =>
      stM (pI z44 0 0 37 ((z44.1 0 0 37) + (1 : Int32))) fun z45 =>
      (aix 64 x5).bind fun j46 =>
      stM (pI z45 30 0 j46 ((z44.1 0 0 37) + (1 : Int32))) fun z47 =>
      some z47) (fun z48 =>
      some z48) FU x1 (0 : Int32) z
abbrev rm_Y_choose : Room := { frames := 2, cells := 0, slots := 0, locals := 47 }
def dn_Y_put (x1 : Int32) (x2 : Int32) (z : Mem) : Option Mem :=
  (dn_Y_endOf x1 z).bind fun r1 =>
  (dn_Y_way x2 r1.1 r1.2).bind fun r2 =>
  if r2.1 = (-1 : Int32) then
    (dn_Y_lose x1 r2.2).bind fun z3 =>
    some z3
  else
    (dn_Y_queued r2.1 (-1 : Int32) r2.2).bind fun r4 =>
    (aix 24 r2.1).bind fun j5 =>
    if r4.1 < (r4.2.1 7 0 j5) then
      (aix 64 x1).bind fun j6 =>
      stV (((6 : Int32) * r2.1) + (r4.2.1 25 0 j6)) fun v7 =>
      (aix 64 x1).bind fun j8 =>
      (dn_Y_queued r2.1 (r4.2.1 25 0 j8) r4.2).bind fun r9 =>
      if r9.1 = 0 then
        stM (pI r9.2 0 0 37 ((r9.2.1 0 0 37) + (1 : Int32))) fun z19 =>
        (aix 144 v7).bind fun j20 =>
        stM (pI z19 31 0 j20 ((r9.2.1 0 0 37) + (1 : Int32))) fun z21 =>
        (aix 144 v7).bind fun j22 =>
        stM (pI z21 32 0 j22 (0 : Int32)) fun z23 =>
        (bz (0 : Int32)).bind fun _ =>
        (aix 144 v7).bind fun j25 =>
        stM (pI z23 33 0 j25 (0 : Int32)) fun z26 =>
        (aix 64 x1).bind fun j27 =>
        stM (pI z26 24 0 j27 (1 : Int32)) fun z28 =>
        (aix 64 x1).bind fun j29 =>
        stM (pI z28 28 0 j29 r2.1) fun z30 =>
        stM (pI z30 0 0 37 ((z30.1 0 0 37) + (1 : Int32))) fun z31 =>
        (aix 64 x1).bind fun j32 =>
        stM (pI z31 30 0 j32 ((z30.1 0 0 37) + (1 : Int32))) fun z33 =>
        (dn_Y_on r2.1 z33).bind fun r34 =>
        if r34.1 = (-1 : Int32) then
          (dn_Y_choose r2.1 r34.2).bind fun z35 =>
          some z35
        else
          some r34.2
      else
        (aix 64 x1).bind fun j10 =>
        stM (pI r9.2 24 0 j10 (1 : Int32)) fun z11 =>
        (aix 64 x1).bind fun j12 =>
        stM (pI z11 28 0 j12 r2.1) fun z13 =>
        stM (pI z13 0 0 37 ((z13.1 0 0 37) + (1 : Int32))) fun z14 =>
        (aix 64 x1).bind fun j15 =>
        stM (pI z14 30 0 j15 ((z13.1 0 0 37) + (1 : Int32))) fun z16 =>
        (dn_Y_on r2.1 z16).bind fun r17 =>
        if r17.1 = (-1 : Int32) then
          (dn_Y_choose r2.1 r17.2).bind fun z18 =>
          some z18
        else
          some r17.2
    else
      (dn_Y_lose x1 r4.2).bind fun z36 =>
      some z36
abbrev rm_Y_put : Room := { frames := 3, cells := 0, slots := 0, locals := 72 }
def dn_Y_make_17 (k40 : Int32 → Int32 → Int32 → Int32 → Int32 → Mem → Option Mem) : Nat → Int32 → Int32 → Int32 → Int32 → Int32 → Mem → Option Mem
  | 0, _, _, _, _, _, _ => none
  | n + 1, x1, x2, x3, x4, x5, z =>
    if (64 : Int32) ≤ x5 then
      k40 x1 x2 x3 x4 x5 z
    else
      (aix 64 x5).bind fun j4 =>
      if (z.1 24 0 j4) = 0 then
        k40 x1 x2 x3 x4 x5 z
      else
        dn_Y_make_17 k40 n x1 x2 x3 x4 (x5 + (1 : Int32)) z
def dn_Y_make (x1 : Int32) (x2 : Int32) (x3 : Int32) (x4 : Int32) (z : Mem) : Option Mem :=
  (aix 24 (((4 : Int32) * x1) + (0 : Int32))).bind fun j1 =>
  (aix 24 (((4 : Int32) * x1) + (0 : Int32))).bind fun j2 =>
  stM (pI z 23 0 j2 ((z.1 23 0 j1) + (1 : Int32))) fun z3 =>
  dn_Y_make_17 (fun x1 x2 x3 x4 x5 z5 =>
      if x5 = (64 : Int32) then
        (aix 24 (((4 : Int32) * x1) + (2 : Int32))).bind fun j14 =>
        (aix 24 (((4 : Int32) * x1) + (2 : Int32))).bind fun j15 =>
        stM (pI z5 23 0 j15 ((z5.1 23 0 j14) + (1 : Int32))) fun z16 =>
        some z16
      else
        (aix 64 x5).bind fun j6 =>
        stM (pI z5 25 0 j6 x1) fun z7 =>
        (aix 64 x5).bind fun j8 =>
        stM (pI z7 26 0 j8 x2) fun z9 =>
        (bz x3).bind fun _ =>
        (aix 64 x5).bind fun j11 =>
        stM (pI z9 27 0 j11 x3) fun z12 =>
        (dn_Y_put x5 x4 z12).bind fun z13 =>
        some z13) FU x1 x2 x3 x4 (0 : Int32) z3
abbrev rm_Y_make : Room := { frames := 4, cells := 0, slots := 0, locals := 96 }
def dn_Y_setTimeout (x1 : Int32) (z : Mem) : Option Mem :=
  (aix 6 x1).bind fun j1 =>
  (aix 6 x1).bind fun j2 =>
  stM (pI z 21 0 j2 ((z.1 0 0 36) + (z.1 14 0 j1))) fun z3 =>
  stM (pI z3 0 0 37 ((z3.1 0 0 37) + (1 : Int32))) fun z4 =>
  (aix 6 x1).bind fun j5 =>
  stM (pI z4 22 0 j5 ((z3.1 0 0 37) + (1 : Int32))) fun z6 =>
  some z6
abbrev rm_Y_setTimeout : Room := { frames := 0, cells := 0, slots := 0, locals := 0 }
def dn_Y_fill_0 (k84 : Mem → Option Mem) : Nat → Int32 → Mem → Option Mem
  | 0, _, _ => none
  | n + 1, x1, z =>
    (aix 6 x1).bind fun j1 =>
    (aix 6 x1).bind fun j2 =>
    (aix 6 x1).bind fun j3 =>
    if ((z.1 16 0 j2) + (z.1 13 0 j3)) ≤ (z.1 17 0 j1) then
      k84 z
    else
      (aix 6 x1).bind fun j4 =>
      (aix 6 x1).bind fun j5 =>
      if (z.1 11 0 j5) ≤ (z.1 17 0 j4) then
        k84 z
      else
        (aix 6 x1).bind fun j6 =>
        if (z.1 21 0 j6) = (-1 : Int32) then
          (dn_Y_setTimeout x1 z).bind fun z12 =>
          (aix 6 x1).bind fun j13 =>
          (aix 6 x1).bind fun j14 =>
          (dn_Y_make x1 (z12.1 17 0 j13) (0 : Int32) (z12.1 9 0 j14) z12).bind fun z15 =>
          (aix 6 x1).bind fun j16 =>
          stM (pI z15 17 0 j16 ((z12.1 17 0 j13) + (1 : Int32))) fun z17 =>
          dn_Y_fill_0 k84 n x1 z17
        else
          (aix 6 x1).bind fun j7 =>
          (aix 6 x1).bind fun j8 =>
          (dn_Y_make x1 (z.1 17 0 j7) (0 : Int32) (z.1 9 0 j8) z).bind fun z9 =>
          (aix 6 x1).bind fun j10 =>
          stM (pI z9 17 0 j10 ((z.1 17 0 j7) + (1 : Int32))) fun z11 =>
          dn_Y_fill_0 k84 n x1 z11
def dn_Y_fill (x1 : Int32) (z : Mem) : Option Mem :=
  dn_Y_fill_0 (fun z18 =>
      some z18) FU x1 z
abbrev rm_Y_fill : Room := { frames := 5, cells := 0, slots := 0, locals := 121 }
def dn_Y_arrive (x1 : Int32) (z : Mem) : Option Mem :=
  (aix 64 x1).bind fun j1 =>
  (dn_Y_leads (z.1 28 0 j1) z).bind fun r2 =>
  (dn_Y_endOf x1 r2.2).bind fun r3 =>
  if r2.1 = r3.1 then
    (aix 64 x1).bind fun j4 =>
    (aix 64 x1).bind fun j5 =>
    (aix 64 x1).bind fun j6 =>
    stM (pI r3.2 24 0 j6 (0 : Int32)) fun z7 =>
    (aix 24 (((4 : Int32) * (r3.2.1 25 0 j4)) + (1 : Int32))).bind fun j8 =>
    (aix 24 (((4 : Int32) * (r3.2.1 25 0 j4)) + (1 : Int32))).bind fun j9 =>
    stM (pI z7 23 0 j9 ((z7.1 23 0 j8) + (1 : Int32))) fun z10 =>
    (aix 64 x1).bind fun j11 =>
    if (z10.1 27 0 j11) = 0 then
      (aix 6 (r3.2.1 25 0 j4)).bind fun j35 =>
      if (r3.2.1 26 0 j5) = (z10.1 18 0 j35) then
        (aix 6 (r3.2.1 25 0 j4)).bind fun j41 =>
        stM (pI z10 18 0 j41 ((r3.2.1 26 0 j5) + (1 : Int32))) fun z42 =>
        (aix 6 (r3.2.1 25 0 j4)).bind fun j43 =>
        (dn_Y_make (r3.2.1 25 0 j4) (z42.1 18 0 j43) (1 : Int32) r2.1 z42).bind fun z44 =>
        some z44
      else
        (aix 6 (r3.2.1 25 0 j4)).bind fun j36 =>
        (aix 6 (r3.2.1 25 0 j4)).bind fun j37 =>
        stM (pI z10 18 0 j37 (z10.1 18 0 j36)) fun z38 =>
        (aix 6 (r3.2.1 25 0 j4)).bind fun j39 =>
        (dn_Y_make (r3.2.1 25 0 j4) (z38.1 18 0 j39) (1 : Int32) r2.1 z38).bind fun z40 =>
        some z40
    else
      (aix 6 (r3.2.1 25 0 j4)).bind fun j12 =>
      if (r3.2.1 26 0 j5) ≤ (z10.1 16 0 j12) then
        some z10
      else
        (aix 6 (r3.2.1 25 0 j4)).bind fun j13 =>
        stM (pI z10 16 0 j13 (r3.2.1 26 0 j5)) fun z14 =>
        (aix 6 (r3.2.1 25 0 j4)).bind fun j15 =>
        if (r3.2.1 26 0 j5) ≤ (z14.1 17 0 j15) then
          (aix 6 (r3.2.1 25 0 j4)).bind fun j16 =>
          (aix 6 (r3.2.1 25 0 j4)).bind fun j17 =>
          stM (pI z14 17 0 j17 (z14.1 17 0 j16)) fun z18 =>
          (aix 6 (r3.2.1 25 0 j4)).bind fun j19 =>
          stM (pI z18 21 0 j19 (-1 : Int32)) fun z20 =>
          (aix 6 (r3.2.1 25 0 j4)).bind fun j21 =>
          (aix 6 (r3.2.1 25 0 j4)).bind fun j22 =>
          if (z20.1 17 0 j22) ≤ (z20.1 16 0 j21) then
            (dn_Y_fill (r3.2.1 25 0 j4) z20).bind fun z23 =>
            some z23
          else
            (dn_Y_setTimeout (r3.2.1 25 0 j4) z20).bind fun z24 =>
            (dn_Y_fill (r3.2.1 25 0 j4) z24).bind fun z25 =>
            some z25
        else
          (aix 6 (r3.2.1 25 0 j4)).bind fun j26 =>
          stM (pI z14 17 0 j26 (r3.2.1 26 0 j5)) fun z27 =>
          (aix 6 (r3.2.1 25 0 j4)).bind fun j28 =>
          stM (pI z27 21 0 j28 (-1 : Int32)) fun z29 =>
          (aix 6 (r3.2.1 25 0 j4)).bind fun j30 =>
          (aix 6 (r3.2.1 25 0 j4)).bind fun j31 =>
          if (z29.1 17 0 j31) ≤ (z29.1 16 0 j30) then
            (dn_Y_fill (r3.2.1 25 0 j4) z29).bind fun z32 =>
            some z32
          else
            (dn_Y_setTimeout (r3.2.1 25 0 j4) z29).bind fun z33 =>
            (dn_Y_fill (r3.2.1 25 0 j4) z33).bind fun z34 =>
            some z34
  else
    (dn_Y_put x1 r2.1 r3.2).bind fun z45 =>
    some z45
abbrev rm_Y_arrive : Room := { frames := 6, cells := 0, slots := 0, locals := 143 }
def dn_Y_begin_15 (k58 : Mem → Option Mem) : Nat → Int32 → Mem → Option Mem
  | 0, _, _ => none
  | n + 1, x1, z =>
    if (z.1 0 0 9) ≤ x1 then
      k58 z
    else
      (aix 6 x1).bind fun j3 =>
      (aix 6 x1).bind fun j4 =>
      stM (pI z 19 0 j4 (z.1 15 0 j3)) fun z5 =>
      stM (pI z5 0 0 37 ((z5.1 0 0 37) + (1 : Int32))) fun z6 =>
      (aix 6 x1).bind fun j7 =>
      stM (pI z6 20 0 j7 ((z5.1 0 0 37) + (1 : Int32))) fun z8 =>
      dn_Y_begin_15 k58 n (x1 + (1 : Int32)) z8
def dn_Y_begin (z : Mem) : Option Mem :=
  if (z.1 0 0 35) = 0 then
    (bz (1 : Int32)).bind fun _ =>
    stM (pI z 0 0 35 (1 : Int32)) fun z2 =>
    dn_Y_begin_15 (fun z9 =>
        some z9) FU (0 : Int32) z2
  else
    some z
abbrev rm_Y_begin : Room := { frames := 0, cells := 0, slots := 0, locals := 0 }
def dn_Y_note (x1 : Int32) (x2 : Int32) (x3 : Int32) (z : Mem) : Option Mem :=
  (aix 16 ((z.1 0 0 38) - (z.1 0 0 38) / (16 : Int32) * (16 : Int32))).bind fun j1 =>
  stM (pL z j1 ((((((z.1 0 0 36)).toInt64 * (1048576 : Int64)) + ((x1).toInt64 * (65536 : Int64))) + ((x2).toInt64 * (256 : Int64))) + (x3).toInt64)) fun z2 =>
  stM (pI z2 0 0 38 ((z2.1 0 0 38) + (1 : Int32))) fun z3 =>
  some z3
abbrev rm_Y_note : Room := { frames := 0, cells := 0, slots := 0, locals := 0 }
def dn_Y_sooner (x0 : Int64) (x2 : Int32) (x3 : Int32) : Option Int64 :=
  stV (((x2).toInt64 * (4294967296 : Int64)) + (x3).toInt64) fun v1 =>
  if (lg_cmp x0 (0 : Int64)) = 0 then
    some v1
  else
    if 0 ≤ (lg_cmp v1 x0) then
      some x0
    else
      some v1
abbrev rm_Y_sooner : Room := { frames := 0, cells := 0, slots := 0, locals := 0 }
def dn_Y_soonest_4 (k43 : Int64 → Mem → Option (Int64 × Mem)) : Nat → Int64 → Int32 → Mem → Option (Int64 × Mem)
  | 0, _, _, _ => none
  | n + 1, x1, x3, z =>
    if (64 : Int32) ≤ x3 then
      k43 x1 z
    else
      (aix 64 x3).bind fun j1 =>
      if (z.1 24 0 j1) < (2 : Int32) then
        dn_Y_soonest_4 k43 n x1 (x3 + (1 : Int32)) z
      else
        (aix 64 x3).bind fun j2 =>
        (aix 64 x3).bind fun j3 =>
        (dn_Y_sooner x1 (z.1 29 0 j2) (z.1 30 0 j3)).bind fun v4 =>
        dn_Y_soonest_4 k43 n v4 (x3 + (1 : Int32)) z
def dn_Y_soonest_45 (k113 : Int64 → Mem → Option (Int64 × Mem)) : Nat → Int64 → Int32 → Mem → Option (Int64 × Mem)
  | 0, _, _, _ => none
  | n + 1, x1, x3, z =>
    if (z.1 0 0 9) ≤ x3 then
      k113 x1 z
    else
      (aix 6 x3).bind fun j6 =>
      if (z.1 19 0 j6) = (-1 : Int32) then
        (aix 6 x3).bind fun j7 =>
        if (z.1 21 0 j7) = (-1 : Int32) then
          dn_Y_soonest_45 k113 n x1 (x3 + (1 : Int32)) z
        else
          (aix 6 x3).bind fun j8 =>
          (aix 6 x3).bind fun j9 =>
          (dn_Y_sooner x1 (z.1 21 0 j8) (z.1 22 0 j9)).bind fun v10 =>
          dn_Y_soonest_45 k113 n v10 (x3 + (1 : Int32)) z
      else
        (aix 6 x3).bind fun j11 =>
        (aix 6 x3).bind fun j12 =>
        (dn_Y_sooner x1 (z.1 19 0 j11) (z.1 20 0 j12)).bind fun v13 =>
        (aix 6 x3).bind fun j14 =>
        if (z.1 21 0 j14) = (-1 : Int32) then
          dn_Y_soonest_45 k113 n v13 (x3 + (1 : Int32)) z
        else
          (aix 6 x3).bind fun j15 =>
          (aix 6 x3).bind fun j16 =>
          (dn_Y_sooner v13 (z.1 21 0 j15) (z.1 22 0 j16)).bind fun v17 =>
          dn_Y_soonest_45 k113 n v17 (x3 + (1 : Int32)) z
def dn_Y_soonest (z : Mem) : Option (Int64 × Mem) :=
  dn_Y_soonest_4 (fun x1 z5 =>
      dn_Y_soonest_45 (fun x1 z18 =>
          some (x1, z18)) FU x1 (0 : Int32) z5) FU (0 : Int64) (0 : Int32) z
abbrev rm_Y_soonest : Room := { frames := 1, cells := 0, slots := 0, locals := 25 }
def dn_Y_moved (x1 : Int32) (z : Mem) : Option Mem :=
  (aix 64 x1).bind fun j1 =>
  if (z.1 27 0 j1) = 0 then
    (aix 64 x1).bind fun j2 =>
    (aix 64 x1).bind fun j3 =>
    (aix 64 x1).bind fun j4 =>
    if (z.1 24 0 j4) = (3 : Int32) then
      (dn_Y_leads (z.1 28 0 j3) z).bind fun r16 =>
      (dn_Y_note (3 : Int32) r16.1 (z.1 26 0 j2) r16.2).bind fun z17 =>
      (dn_Y_arrive x1 z17).bind fun z18 =>
      some z18
    else
      (dn_Y_note (2 : Int32) (z.1 28 0 j3) (z.1 26 0 j2) z).bind fun z5 =>
      (aix 64 x1).bind fun j6 =>
      stM (pI z5 24 0 j6 (3 : Int32)) fun z7 =>
      (aix 12 ((z.1 28 0 j3) / (2 : Int32))).bind fun j8 =>
      (aix 64 x1).bind fun j9 =>
      stM (pI z7 29 0 j9 ((z7.1 0 0 36) + (z7.1 5 0 j8))) fun z10 =>
      stM (pI z10 0 0 37 ((z10.1 0 0 37) + (1 : Int32))) fun z11 =>
      (aix 64 x1).bind fun j12 =>
      stM (pI z11 30 0 j12 ((z10.1 0 0 37) + (1 : Int32))) fun z13 =>
      (dn_Y_queued (z.1 28 0 j3) (-1 : Int32) z13).bind fun r14 =>
      if r14.1 ≤ 0 then
        some r14.2
      else
        (dn_Y_choose (z.1 28 0 j3) r14.2).bind fun z15 =>
        some z15
  else
    (aix 64 x1).bind fun j19 =>
    stV ((z.1 26 0 j19) + (128 : Int32)) fun v20 =>
    (aix 64 x1).bind fun j21 =>
    (aix 64 x1).bind fun j22 =>
    if (z.1 24 0 j22) = (3 : Int32) then
      (dn_Y_leads (z.1 28 0 j21) z).bind fun r34 =>
      (dn_Y_note (3 : Int32) r34.1 v20 r34.2).bind fun z35 =>
      (dn_Y_arrive x1 z35).bind fun z36 =>
      some z36
    else
      (dn_Y_note (2 : Int32) (z.1 28 0 j21) v20 z).bind fun z23 =>
      (aix 64 x1).bind fun j24 =>
      stM (pI z23 24 0 j24 (3 : Int32)) fun z25 =>
      (aix 12 ((z.1 28 0 j21) / (2 : Int32))).bind fun j26 =>
      (aix 64 x1).bind fun j27 =>
      stM (pI z25 29 0 j27 ((z25.1 0 0 36) + (z25.1 5 0 j26))) fun z28 =>
      stM (pI z28 0 0 37 ((z28.1 0 0 37) + (1 : Int32))) fun z29 =>
      (aix 64 x1).bind fun j30 =>
      stM (pI z29 30 0 j30 ((z28.1 0 0 37) + (1 : Int32))) fun z31 =>
      (dn_Y_queued (z.1 28 0 j21) (-1 : Int32) z31).bind fun r32 =>
      if r32.1 ≤ 0 then
        some r32.2
      else
        (dn_Y_choose (z.1 28 0 j21) r32.2).bind fun z33 =>
        some z33
abbrev rm_Y_moved : Room := { frames := 7, cells := 0, slots := 0, locals := 167 }
def dn_Y_step_37 (k68 : Int32 → Mem → Option (Int32 × Mem)) (k120 : Int32 → Mem → Option (Int32 × Mem)) (k185 : Int32 → Mem → Option (Int32 × Mem)) : Nat → Int32 → Int32 → Mem → Option (Int32 × Mem)
  | 0, _, _, _ => none
  | n + 1, x3, x4, z =>
    if (z.1 0 0 9) ≤ x4 then
      k185 x3 z
    else
      (aix 6 x4).bind fun j5 =>
      if (z.1 19 0 j5) = (-1 : Int32) then
        (aix 6 x4).bind fun j6 =>
        if (z.1 21 0 j6) = (-1 : Int32) then
          dn_Y_step_37 k68 k120 k185 n x3 (x4 + (1 : Int32)) z
        else
          (aix 6 x4).bind fun j7 =>
          if (z.1 22 0 j7) = x3 then
            k120 x4 z
          else
            dn_Y_step_37 k68 k120 k185 n x3 (x4 + (1 : Int32)) z
      else
        (aix 6 x4).bind fun j8 =>
        if (z.1 20 0 j8) = x3 then
          k68 x4 z
        else
          (aix 6 x4).bind fun j9 =>
          if (z.1 21 0 j9) = (-1 : Int32) then
            dn_Y_step_37 k68 k120 k185 n x3 (x4 + (1 : Int32)) z
          else
            (aix 6 x4).bind fun j10 =>
            if (z.1 22 0 j10) = x3 then
              k120 x4 z
            else
              dn_Y_step_37 k68 k120 k185 n x3 (x4 + (1 : Int32)) z
def dn_Y_step_188 (k217 : Int32 → Mem → Option (Int32 × Mem)) (k231 : Mem → Option (Int32 × Mem)) : Nat → Int32 → Int32 → Mem → Option (Int32 × Mem)
  | 0, _, _, _ => none
  | n + 1, x3, x4, z =>
    if (64 : Int32) ≤ x4 then
      k231 z
    else
      (aix 64 x4).bind fun j32 =>
      if (z.1 24 0 j32) < (2 : Int32) then
        dn_Y_step_188 k217 k231 n x3 (x4 + (1 : Int32)) z
      else
        (aix 64 x4).bind fun j33 =>
        if (z.1 30 0 j33) = x3 then
          k217 x4 z
        else
          dn_Y_step_188 k217 k231 n x3 (x4 + (1 : Int32)) z
def dn_Y_step (z : Mem) : Option (Int32 × Mem) :=
  (dn_Y_begin z).bind fun z1 =>
  (dn_Y_soonest z1).bind fun r2 =>
  if (lg_cmp r2.1 (0 : Int64)) = 0 then
    (bz (0 : Int32)).bind fun _ =>
    some ((0 : Int32), r2.2)
  else
    stV (((r2.1 - r2.1 / (4294967296 : Int64) * (4294967296 : Int64))).toInt32) fun v3 =>
    stM (pI r2.2 0 0 36 (((r2.1 / (4294967296 : Int64))).toInt32)) fun z4 =>
    dn_Y_step_37 (fun x4 z11 =>
        (aix 6 x4).bind fun j12 =>
        stM (pI z11 19 0 j12 (-1 : Int32)) fun z13 =>
        (aix 6 x4).bind fun j14 =>
        (dn_Y_note (1 : Int32) x4 (z13.1 17 0 j14) z13).bind fun z15 =>
        (dn_Y_fill x4 z15).bind fun z16 =>
        (bz (1 : Int32)).bind fun _ =>
        some ((1 : Int32), z16)) (fun x4 z18 =>
        (aix 6 x4).bind fun j19 =>
        stM (pI z18 21 0 j19 (-1 : Int32)) fun z20 =>
        (aix 24 (((4 : Int32) * x4) + (3 : Int32))).bind fun j21 =>
        (aix 24 (((4 : Int32) * x4) + (3 : Int32))).bind fun j22 =>
        stM (pI z20 23 0 j22 ((z20.1 23 0 j21) + (1 : Int32))) fun z23 =>
        (aix 6 x4).bind fun j24 =>
        (dn_Y_note (4 : Int32) x4 (z23.1 16 0 j24) z23).bind fun z25 =>
        (aix 6 x4).bind fun j26 =>
        (aix 6 x4).bind fun j27 =>
        stM (pI z25 17 0 j27 (z25.1 16 0 j26)) fun z28 =>
        (dn_Y_fill x4 z28).bind fun z29 =>
        (bz (1 : Int32)).bind fun _ =>
        some ((1 : Int32), z29)) (fun x3 z31 =>
        dn_Y_step_188 (fun x4 z34 =>
            (dn_Y_moved x4 z34).bind fun z35 =>
            (bz (1 : Int32)).bind fun _ =>
            some ((1 : Int32), z35)) (fun z37 =>
            (bz (1 : Int32)).bind fun _ =>
            some ((1 : Int32), z37)) FU x3 (0 : Int32) z31) FU v3 (0 : Int32) z4
abbrev rm_Y_step : Room := { frames := 8, cells := 0, slots := 0, locals := 190 }
def dn_Y_run_14 (k32 : Int32 → Mem → Option (Int32 × Mem)) : Nat → Int32 → Int32 → Mem → Option (Int32 × Mem)
  | 0, _, _, _ => none
  | n + 1, x1, x2, z =>
    if x1 ≤ x2 then
      k32 x2 z
    else
      (dn_Y_step z).bind fun r1 =>
      if r1.1 = 0 then
        k32 x2 r1.2
      else
        dn_Y_run_14 k32 n x1 (x2 + (1 : Int32)) r1.2
def dn_Y_run (x1 : Int32) (z : Mem) : Option (Int32 × Mem) :=
  if x1 < 0 then
    some ((-1 : Int32), z)
  else
    if x1 ≤ (50 : Int32) then
      dn_Y_run_14 (fun x2 z2 =>
          some (x2, z2)) FU x1 (0 : Int32) z
    else
      some ((-1 : Int32), z)
abbrev rm_Y_run : Room := { frames := 9, cells := 0, slots := 0, locals := 214 }
def dn_Y_now (z : Mem) : Option (Int32 × Mem) :=
  some ((z.1 0 0 36), z)
abbrev rm_Y_now : Room := { frames := 0, cells := 0, slots := 0, locals := 0 }
def dn_Y_trace (x1 : Int32) (z : Mem) : Option (Int64 × Mem) :=
  if x1 < 0 then
    some ((-1 : Int64), z)
  else
    if (15 : Int32) < x1 then
      some ((-1 : Int64), z)
    else
      if x1 < (z.1 0 0 38) then
        (aix 16 ((((z.1 0 0 38) - (1 : Int32)) - x1) - (((z.1 0 0 38) - (1 : Int32)) - x1) / (16 : Int32) * (16 : Int32))).bind fun j1 =>
        some ((z.2 j1), z)
      else
        some ((-1 : Int64), z)
abbrev rm_Y_trace : Room := { frames := 0, cells := 0, slots := 0, locals := 0 }
def dn_Y_waiting (x1 : Int32) (x2 : Int32) (z : Mem) : Option (Int32 × Mem) :=
  (dn_Y_isPort x1 z).bind fun r1 =>
  if r1.1 = 0 then
    some ((-1 : Int32), r1.2)
  else
    if x2 = (-1 : Int32) then
      (dn_Y_queued x1 x2 r1.2).bind fun r2 =>
      some (r2.1, r2.2)
    else
      (dn_Y_isFlow x2 r1.2).bind fun r3 =>
      if r3.1 = 0 then
        some ((-1 : Int32), r3.2)
      else
        (dn_Y_queued x1 x2 r3.2).bind fun r4 =>
        some (r4.1, r4.2)
abbrev rm_Y_waiting : Room := { frames := 1, cells := 0, slots := 0, locals := 24 }
def dn_Y_deficit (x1 : Int32) (x2 : Int32) (z : Mem) : Option (Int32 × Mem) :=
  (dn_Y_isPort x1 z).bind fun r1 =>
  if r1.1 = 0 then
    some ((-1 : Int32), r1.2)
  else
    (dn_Y_isFlow x2 r1.2).bind fun r2 =>
    if r2.1 = 0 then
      some ((-1 : Int32), r2.2)
    else
      (dn_Y_queued x1 x2 r2.2).bind fun r3 =>
      if r3.1 = 0 then
        some ((0 : Int32), r3.2)
      else
        (aix 144 (((6 : Int32) * x1) + x2)).bind fun j4 =>
        some ((r3.2.1 32 0 j4), r3.2)
abbrev rm_Y_deficit : Room := { frames := 1, cells := 0, slots := 0, locals := 24 }
def dn_Y_onPort (x1 : Int32) (z : Mem) : Option (Int32 × Mem) :=
  (dn_Y_isPort x1 z).bind fun r1 =>
  if r1.1 = 0 then
    if (-1 : Int32) = (-1 : Int32) then
      some ((-1 : Int32), r1.2)
    else
      (aix 64 (-1 : Int32)).bind fun j2 =>
      (aix 64 (-1 : Int32)).bind fun j3 =>
      (aix 64 (-1 : Int32)).bind fun j4 =>
      if (r1.2.1 27 0 j4) = 0 then
        some (((((256 : Int32) * (r1.2.1 25 0 j2)) + (r1.2.1 26 0 j3)) + (0 : Int32)), r1.2)
      else
        some (((((256 : Int32) * (r1.2.1 25 0 j2)) + (r1.2.1 26 0 j3)) + (128 : Int32)), r1.2)
  else
    (dn_Y_on x1 r1.2).bind fun r5 =>
    if r5.1 = (-1 : Int32) then
      some ((-1 : Int32), r5.2)
    else
      (aix 64 r5.1).bind fun j6 =>
      (aix 64 r5.1).bind fun j7 =>
      (aix 64 r5.1).bind fun j8 =>
      if (r5.2.1 27 0 j8) = 0 then
        some (((((256 : Int32) * (r5.2.1 25 0 j6)) + (r5.2.1 26 0 j7)) + (0 : Int32)), r5.2)
      else
        some (((((256 : Int32) * (r5.2.1 25 0 j6)) + (r5.2.1 26 0 j7)) + (128 : Int32)), r5.2)
abbrev rm_Y_onPort : Room := { frames := 1, cells := 0, slots := 0, locals := 23 }
def dn_Y_timer (x1 : Int32) (z : Mem) : Option (Int32 × Mem) :=
  (dn_Y_isFlow x1 z).bind fun r1 =>
  if r1.1 = 0 then
    some ((-1 : Int32), r1.2)
  else
    (aix 6 x1).bind fun j2 =>
    some ((r1.2.1 21 0 j2), r1.2)
abbrev rm_Y_timer : Room := { frames := 1, cells := 0, slots := 0, locals := 21 }
def dn_Y_count (x1 : Int32) (x2 : Int32) (z : Mem) : Option (Int32 × Mem) :=
  (dn_Y_isFlow x1 z).bind fun r1 =>
  if r1.1 = 0 then
    some ((-1 : Int32), r1.2)
  else
    if x2 < 0 then
      some ((-1 : Int32), r1.2)
    else
      if x2 ≤ (6 : Int32) then
        if (3 : Int32) ≤ x2 then
          (aix 24 ((((4 : Int32) * x1) + x2) - (3 : Int32))).bind fun j2 =>
          some ((r1.2.1 23 0 j2), r1.2)
        else
          if x2 = 0 then
            (aix 6 x1).bind fun j5 =>
            some ((r1.2.1 16 0 j5), r1.2)
          else
            if x2 = (1 : Int32) then
              (aix 6 x1).bind fun j4 =>
              some ((r1.2.1 17 0 j4), r1.2)
            else
              (aix 6 x1).bind fun j3 =>
              some ((r1.2.1 18 0 j3), r1.2)
      else
        some ((-1 : Int32), r1.2)
abbrev rm_Y_count : Room := { frames := 1, cells := 0, slots := 0, locals := 21 }
end
section
/-! ===== the same memory over the whole numbers; a guard wherever a number is compared, divided or widened ===== -/
abbrev MemI : Type := (Nat → Nat → Nat → Int) × (Nat → Int)
def EE (a : MemI) : Mem := (fun c i j => Int32.ofInt (a.1 c i j), fun j => Int64.ofInt (a.2 j))
def pN (a : MemI) (kc ki j : Nat) (v : Int) : MemI := (fun c i k => if c = kc ∧ i = ki ∧ k = j then v else a.1 c i k, a.2)
def pM (a : MemI) (j : Nat) (v : Int) : MemI := (a.1, fun k => if k = j then v else a.2 k)
def cN (a : MemI) (kc ki : Nat) (sp dp ln : Int) : MemI := (fun c i k => if c = kc ∧ i = ki ∧ dp.toNat ≤ k ∧ k < dp.toNat + ln.toNat then a.1 kc ki (sp.toNat + (k - dp.toNat)) else a.1 c i k, a.2)
def cM (a : MemI) (sp dp ln : Int) : MemI := (a.1, fun k => if dp.toNat ≤ k ∧ k < dp.toNat + ln.toNat then a.2 (sp.toNat + (k - dp.toNat)) else a.2 k)
def aiz (n : Nat) (x : Int) : Option Nat := if 0 ≤ x ∧ x < n then some x.toNat else none
def biz (x : Int) : Option Unit := if x = 0 ∨ x = 1 then some () else none
def acz (n : Nat) (sp dp ln : Int) : Option Unit := if 0 ≤ sp ∧ 0 ≤ dp ∧ 0 ≤ ln ∧ sp + ln ≤ n ∧ dp + ln ≤ n then some () else none
def stN {α : Type} (z : MemI) (f : MemI → Option α) : Option α := f z
def stW {α : Type} (x : Int) (f : Int → Option α) : Option α := f x
def rg (x : Int) : Option Unit := if (-2147483648 ≤ x ∧ x < 2147483648) then some () else none
def rl (x : Int) : Option Unit := if (-9223372036854775808 ≤ x ∧ x < 9223372036854775808) then some () else none
def nn (x : Int) : Option Unit := if 0 ≤ x ∧ x < 2147483648 then some () else none
def nl (x : Int) : Option Unit := if 0 ≤ x ∧ x < 9223372036854775808 then some () else none
def cmpZ (x y : Int) : Int := if x > y then 1 else if x = y then 0 else -1
theorem rg_some {x : Int} {u : Unit} (h : rg x = some u) : (-2147483648 ≤ x ∧ x < 2147483648) := by
  unfold rg at h
  by_cases c : (-2147483648 ≤ x ∧ x < 2147483648)
  · exact c
  · rw [if_neg c] at h
    cases h
theorem rl_some {x : Int} {u : Unit} (h : rl x = some u) : (-9223372036854775808 ≤ x ∧ x < 9223372036854775808) := by
  unfold rl at h
  by_cases c : (-9223372036854775808 ≤ x ∧ x < 9223372036854775808)
  · exact c
  · rw [if_neg c] at h
    cases h
theorem nn_some {x : Int} {u : Unit} (h : nn x = some u) : 0 ≤ x ∧ x < 2147483648 := by
  unfold nn at h
  by_cases c : 0 ≤ x ∧ x < 2147483648
  · exact c
  · rw [if_neg c] at h
    cases h
theorem nl_some {x : Int} {u : Unit} (h : nl x = some u) : 0 ≤ x ∧ x < 9223372036854775808 := by
  unfold nl at h
  by_cases c : 0 ≤ x ∧ x < 9223372036854775808
  · exact c
  · rw [if_neg c] at h
    cases h
theorem rg_ok {x : Int} (h : (-2147483648 ≤ x ∧ x < 2147483648)) : rg x = some () := if_pos h
theorem rl_ok {x : Int} (h : (-9223372036854775808 ≤ x ∧ x < 9223372036854775808)) : rl x = some () := if_pos h
theorem nn_ok {x : Int} (h : 0 ≤ x ∧ x < 2147483648) : nn x = some () := if_pos h
theorem nl_ok {x : Int} (h : 0 ≤ x ∧ x < 9223372036854775808) : nl x = some () := if_pos h
theorem aiz_ok {n : Nat} {x : Int} (h : 0 ≤ x ∧ x < n) : aiz n x = some x.toNat := if_pos h
theorem biz_ok {x : Int} (h : x = 0 ∨ x = 1) : biz x = some () := if_pos h
theorem acz_ok {n : Nat} {sp dp ln : Int} (h : 0 ≤ sp ∧ 0 ≤ dp ∧ 0 ≤ ln ∧ sp + ln ≤ n ∧ dp + ln ≤ n) : acz n sp dp ln = some () := if_pos h
theorem ti {x : Int} (h : (-2147483648 ≤ x ∧ x < 2147483648)) : (Int32.ofInt x).toInt = x := Int32.toInt_ofInt_of_le (by omega) (by omega)
theorem tl {x : Int} (h : (-9223372036854775808 ≤ x ∧ x < 9223372036854775808)) : (Int64.ofInt x).toInt = x := Int64.toInt_ofInt_of_le (by omega) (by omega)
theorem tn {x : Int} (h : (-2147483648 ≤ x ∧ x < 2147483648)) : (Int32.ofInt x).toNatClampNeg = x.toNat := by
  unfold Int32.toNatClampNeg
  rw [ti h]
theorem neg_i {x : Int} (h : 0 ≤ x ∧ x < 2147483648) : ¬ Int32.ofInt x < 0 := by
  rw [Int32.lt_iff_toInt_lt, ti (by omega)]
  have e : (0 : Int32).toInt = 0 := by decide
  rw [e]
  omega
theorem aix_i {n : Nat} {X : Int32} {x : Int} {j : Nat} (hn : n ≤ 2147483647) (h : aiz n x = some j) (hX : X = Int32.ofInt x) : aix n X = some j := by
  subst hX
  unfold aiz at h
  by_cases c : 0 ≤ x ∧ x < n
  · rw [if_pos c] at h
    cases h
    unfold aix
    rw [tn (by omega), if_neg]
    intro q
    rcases q with q | q
    · exact neg_i (by omega) q
    · omega
  · rw [if_neg c] at h
    cases h
theorem bz_i {X : Int32} {x : Int} {u : Unit} (h : biz x = some u) (hX : X = Int32.ofInt x) : bz X = some u := by
  subst hX
  unfold biz at h
  by_cases c : x = 0 ∨ x = 1
  · cases u
    rcases c with rfl | rfl
    · exact if_pos (Or.inl rfl)
    · exact if_pos (Or.inr rfl)
  · rw [if_neg c] at h
    cases h
theorem acz_some {n : Nat} {sp dp ln : Int} {u : Unit} (h : acz n sp dp ln = some u) : 0 ≤ sp ∧ 0 ≤ dp ∧ 0 ≤ ln ∧ sp + ln ≤ n ∧ dp + ln ≤ n := by
  unfold acz at h
  by_cases c : 0 ≤ sp ∧ 0 ≤ dp ∧ 0 ≤ ln ∧ sp + ln ≤ n ∧ dp + ln ≤ n
  · exact c
  · rw [if_neg c] at h
    cases h
theorem acp_i {n : Nat} {S D N : Int32} {sp dp ln : Int} {u : Unit} (hn : n ≤ 2147483647) (h : acz n sp dp ln = some u) (hS : S = Int32.ofInt sp) (hD : D = Int32.ofInt dp) (hN : N = Int32.ofInt ln) : acp n S D N = some u := by
  subst hS hD hN
  have c := acz_some h
  cases u
  unfold acp
  rw [tn (by omega), tn (by omega), tn (by omega)]
  exact if_pos ⟨neg_i (by omega), neg_i (by omega), neg_i (by omega), by omega, by omega⟩
theorem bnd_i {α β : Type} {o : Option α} {v : α} {F : α → Option β} {r : Option β} (h : o = some v) (k : F v = r) : o.bind F = r := by rw [h]; exact k
theorem stM_i {α : Type} {Z Z1 : Mem} {f : Mem → Option α} {r : Option α} (hZ : Z = Z1) (h : f Z1 = r) : stM Z f = r := by subst hZ; exact h
theorem stV_i {α β : Type} {X Y : β} {f : β → Option α} {r : Option α} (hX : X = Y) (h : f Y = r) : stV X f = r := by subst hX; exact h
theorem stN_o {α : Type} {z : MemI} {f : MemI → Option α} {r : Option α} (h : stN z f = r) : ∃ z1, z1 = z ∧ f z1 = r := ⟨z, rfl, h⟩
theorem stW_o {α : Type} {x : Int} {f : Int → Option α} {r : Option α} (h : stW x f = r) : ∃ v, v = x ∧ f v = r := ⟨x, rfl, h⟩
theorem hEq {X : Int32} {x v : Int} (e : v = x) (h : X = Int32.ofInt x) : X = Int32.ofInt v := by rw [e]; exact h
theorem hEqL {X : Int64} {x v : Int} (e : v = x) (h : X = Int64.ofInt x) : X = Int64.ofInt v := by rw [e]; exact h
theorem pI_i {a a1 : MemI} {kc ki j : Nat} {V : Int32} {v : Int} (e : a1 = pN a kc ki j v) (hV : V = Int32.ofInt v) : pI (EE a) kc ki j V = EE a1 := by
  subst e hV
  refine Prod.ext ?_ rfl
  funext c i k
  show (if c = kc ∧ i = ki then upd ((EE a).1 kc ki) j (Int32.ofInt v) else (EE a).1 c i) k = Int32.ofInt (if c = kc ∧ i = ki ∧ k = j then v else a.1 c i k)
  by_cases h1 : c = kc ∧ i = ki
  · rw [if_pos h1]
    show (if k = j then Int32.ofInt v else Int32.ofInt (a.1 kc ki k)) = _
    by_cases h2 : k = j
    · rw [if_pos h2, if_pos ⟨h1.1, h1.2, h2⟩]
    · rw [if_neg h2, if_neg (fun q => h2 q.2.2), h1.1, h1.2]
  · rw [if_neg h1, if_neg (fun q => h1 ⟨q.1, q.2.1⟩)]
    rfl
theorem pL_i {a a1 : MemI} {j : Nat} {V : Int64} {v : Int} (e : a1 = pM a j v) (hV : V = Int64.ofInt v) : pL (EE a) j V = EE a1 := by
  subst e hV
  refine Prod.ext rfl ?_
  funext k
  show (if k = j then Int64.ofInt v else Int64.ofInt (a.2 k)) = Int64.ofInt (if k = j then v else a.2 k)
  by_cases h : k = j
  · rw [if_pos h, if_pos h]
  · rw [if_neg h, if_neg h]
theorem cpI_i {a a1 : MemI} {n kc ki : Nat} {S D N : Int32} {sp dp ln : Int} {u : Unit} (hn : n ≤ 2147483647) (g : acz n sp dp ln = some u) (e : a1 = cN a kc ki sp dp ln) (hS : S = Int32.ofInt sp) (hD : D = Int32.ofInt dp) (hN : N = Int32.ofInt ln) : cpI (EE a) kc ki S D N = EE a1 := by
  subst e hS hD hN
  have c := acz_some g
  refine Prod.ext ?_ rfl
  funext q i k
  show (if q = kc ∧ i = ki then va_cpy ((EE a).1 kc ki) ((EE a).1 kc ki) (Int32.ofInt sp).toNatClampNeg (Int32.ofInt dp).toNatClampNeg (Int32.ofInt ln).toNatClampNeg else (EE a).1 q i) k = Int32.ofInt (if q = kc ∧ i = ki ∧ dp.toNat ≤ k ∧ k < dp.toNat + ln.toNat then a.1 kc ki (sp.toNat + (k - dp.toNat)) else a.1 q i k)
  rw [tn (by omega), tn (by omega), tn (by omega)]
  by_cases h1 : q = kc ∧ i = ki
  · rw [if_pos h1]
    show (if dp.toNat ≤ k ∧ k < dp.toNat + ln.toNat then Int32.ofInt (a.1 kc ki (sp.toNat + (k - dp.toNat))) else Int32.ofInt (a.1 kc ki k)) = _
    by_cases h2 : dp.toNat ≤ k ∧ k < dp.toNat + ln.toNat
    · rw [if_pos h2, if_pos ⟨h1.1, h1.2, h2.1, h2.2⟩]
    · rw [if_neg h2, if_neg (fun w => h2 w.2.2), h1.1, h1.2]
  · rw [if_neg h1, if_neg (fun w => h1 ⟨w.1, w.2.1⟩)]
    rfl
theorem cpL_i {a a1 : MemI} {n : Nat} {S D N : Int32} {sp dp ln : Int} {u : Unit} (hn : n ≤ 2147483647) (g : acz n sp dp ln = some u) (e : a1 = cM a sp dp ln) (hS : S = Int32.ofInt sp) (hD : D = Int32.ofInt dp) (hN : N = Int32.ofInt ln) : cpL (EE a) S D N = EE a1 := by
  subst e hS hD hN
  have c := acz_some g
  refine Prod.ext rfl ?_
  funext k
  show va_cpy (EE a).2 (EE a).2 (Int32.ofInt sp).toNatClampNeg (Int32.ofInt dp).toNatClampNeg (Int32.ofInt ln).toNatClampNeg k = Int64.ofInt (if dp.toNat ≤ k ∧ k < dp.toNat + ln.toNat then a.2 (sp.toNat + (k - dp.toNat)) else a.2 k)
  rw [tn (by omega), tn (by omega), tn (by omega)]
  show (if dp.toNat ≤ k ∧ k < dp.toNat + ln.toNat then Int64.ofInt (a.2 (sp.toNat + (k - dp.toNat))) else Int64.ofInt (a.2 k)) = _
  by_cases h2 : dp.toNat ≤ k ∧ k < dp.toNat + ln.toNat
  · rw [if_pos h2, if_pos h2]
  · rw [if_neg h2, if_neg h2]
theorem hAdd {X Y : Int32} {x y : Int} (hX : X = Int32.ofInt x) (hY : Y = Int32.ofInt y) : X + Y = Int32.ofInt (x + y) := by rw [hX, hY, Int32.ofInt_add]
theorem hSub {X Y : Int32} {x y : Int} (hX : X = Int32.ofInt x) (hY : Y = Int32.ofInt y) : X - Y = Int32.ofInt (x - y) := by rw [hX, hY, Int32.ofInt_sub]
theorem hMul {X Y : Int32} {x y : Int} (hX : X = Int32.ofInt x) (hY : Y = Int32.ofInt y) : X * Y = Int32.ofInt (x * y) := by rw [hX, hY, Int32.ofInt_mul]
theorem hAddL {X Y : Int64} {x y : Int} (hX : X = Int64.ofInt x) (hY : Y = Int64.ofInt y) : X + Y = Int64.ofInt (x + y) := by rw [hX, hY, Int64.ofInt_add]
theorem hSubL {X Y : Int64} {x y : Int} (hX : X = Int64.ofInt x) (hY : Y = Int64.ofInt y) : X - Y = Int64.ofInt (x - y) := by rw [hX, hY, Int64.ofInt_sub]
theorem hMulL {X Y : Int64} {x y : Int} (hX : X = Int64.ofInt x) (hY : Y = Int64.ofInt y) : X * Y = Int64.ofInt (x * y) := by rw [hX, hY, Int64.ofInt_mul]
theorem hDiv {X Y : Int32} {x y : Int} {u : Unit} (hy : 0 < y ∧ y < 2147483648) (g : nn x = some u) (hX : X = Int32.ofInt x) (hY : Y = Int32.ofInt y) : X / Y = Int32.ofInt (x / y) := by
  have c := nn_some g
  have e1 : Int32.minValue.toInt = -2147483648 := by decide
  have e2 : Int32.maxValue.toInt = 2147483647 := by decide
  rw [hX, hY, ← Int.tdiv_eq_ediv_of_nonneg c.1, Int32.ofInt_tdiv (by omega) (by omega) (by omega) (by omega)]
theorem hMod {X Y : Int32} {x y : Int} {u : Unit} (hy : 0 < y ∧ y < 2147483648) (g : nn x = some u) (hX : X = Int32.ofInt x) (hY : Y = Int32.ofInt y) : X - X / Y * Y = Int32.ofInt (x % y) := by
  rw [hDiv hy g hX hY, hX, hY, ← Int32.ofInt_mul, ← Int32.ofInt_sub, Int.emod_def, Int.mul_comm]
theorem hDivL {X Y : Int64} {x y : Int} {u : Unit} (hy : 0 < y ∧ y < 9223372036854775808) (g : nl x = some u) (hX : X = Int64.ofInt x) (hY : Y = Int64.ofInt y) : X / Y = Int64.ofInt (x / y) := by
  have c := nl_some g
  have e1 : Int64.minValue.toInt = -9223372036854775808 := by decide
  have e2 : Int64.maxValue.toInt = 9223372036854775807 := by decide
  rw [hX, hY, ← Int.tdiv_eq_ediv_of_nonneg c.1, Int64.ofInt_tdiv (by omega) (by omega) (by omega) (by omega)]
theorem hModL {X Y : Int64} {x y : Int} {u : Unit} (hy : 0 < y ∧ y < 9223372036854775808) (g : nl x = some u) (hX : X = Int64.ofInt x) (hY : Y = Int64.ofInt y) : X - X / Y * Y = Int64.ofInt (x % y) := by
  rw [hDivL hy g hX hY, hX, hY, ← Int64.ofInt_mul, ← Int64.ofInt_sub, Int.emod_def, Int.mul_comm]
theorem hI2L {X : Int32} {x : Int} {u : Unit} (g : rg x = some u) (hX : X = Int32.ofInt x) : X.toInt64 = Int64.ofInt x := by
  have c := rg_some g
  have e1 : Int32.minValue.toInt = -2147483648 := by decide
  have e2 : Int32.maxValue.toInt = 2147483647 := by decide
  rw [hX, Int32.toInt64_ofInt (by omega) (by omega)]
theorem hL2I {X : Int64} {x : Int} (hX : X = Int64.ofInt x) : X.toInt32 = Int32.ofInt x := by rw [hX, Int64.toInt32_ofInt]
theorem lt_i {X Y : Int32} {x y : Int} (gx : (-2147483648 ≤ x ∧ x < 2147483648)) (gy : (-2147483648 ≤ y ∧ y < 2147483648)) (hX : X = Int32.ofInt x) (hY : Y = Int32.ofInt y) : X < Y ↔ x < y := by rw [hX, hY, Int32.lt_iff_toInt_lt, ti gx, ti gy]
theorem le_i {X Y : Int32} {x y : Int} (gx : (-2147483648 ≤ x ∧ x < 2147483648)) (gy : (-2147483648 ≤ y ∧ y < 2147483648)) (hX : X = Int32.ofInt x) (hY : Y = Int32.ofInt y) : X ≤ Y ↔ x ≤ y := by rw [hX, hY, Int32.le_iff_toInt_le, ti gx, ti gy]
theorem eq_i {X Y : Int32} {x y : Int} (gx : (-2147483648 ≤ x ∧ x < 2147483648)) (gy : (-2147483648 ≤ y ∧ y < 2147483648)) (hX : X = Int32.ofInt x) (hY : Y = Int32.ofInt y) : X = Y ↔ x = y := by rw [hX, hY, ← Int32.toInt_inj, ti gx, ti gy]
theorem hCmp {X Y : Int64} {x y : Int} {u w : Unit} (gx : rl x = some u) (gy : rl y = some w) (hX : X = Int64.ofInt x) (hY : Y = Int64.ofInt y) : lg_cmp X Y = Int32.ofInt (cmpZ x y) := by
  have cx := rl_some gx
  have cy := rl_some gy
  have h1 : X > Y ↔ x > y := by
    show Y < X ↔ y < x
    rw [hX, hY, Int64.lt_iff_toInt_lt, tl cx, tl cy]
  have h2 : X = Y ↔ x = y := by rw [hX, hY, ← Int64.toInt_inj, tl cx, tl cy]
  unfold lg_cmp cmpZ
  by_cases c1 : x > y
  · rw [if_pos (h1.mpr c1), if_pos c1]
    rfl
  · rw [if_neg (fun q => c1 (h1.mp q)), if_neg c1]
    by_cases c2 : x = y
    · rw [if_pos (h2.mpr c2), if_pos c2]
      rfl
    · rw [if_neg (fun q => c2 (h2.mp q)), if_neg c2]
      rfl
theorem ite_gt {α : Type} {c d : Prop} {i : Decidable c} {a b r : α} (hc : c ↔ d) (hd : d) (h : a = r) : (@ite α c i a b) = r := by rw [if_pos (hc.mpr hd)]; exact h
theorem ite_gf {α : Type} {c d : Prop} {i : Decidable c} {a b r : α} (hc : c ↔ d) (hd : ¬ d) (h : b = r) : (@ite α c i a b) = r := by rw [if_neg (fun q => hd (hc.mp q))]; exact h
theorem ret_i {V : Int32} {v r0 : Int} {a a0 : MemI} (hV : V = Int32.ofInt v) (h : some (v, a) = some (r0, a0)) : some (V, EE a) = some (Int32.ofInt r0, EE a0) := by cases h; rw [hV]
theorem retj_i {V : Int64} {v r0 : Int} {a a0 : MemI} (hV : V = Int64.ofInt v) (h : some (v, a) = some (r0, a0)) : some (V, EE a) = some (Int64.ofInt r0, EE a0) := by cases h; rw [hV]
theorem retv_i {a a0 : MemI} (h : some a = some a0) : some (EE a) = some (EE a0) := by cases h; rfl
theorem retp_i {V : Int32} {v r0 : Int} (hV : V = Int32.ofInt v) (h : some v = some r0) : some V = some (Int32.ofInt r0) := by cases h; rw [hV]
theorem retpj_i {V : Int64} {v r0 : Int} (hV : V = Int64.ofInt v) (h : some v = some r0) : some V = some (Int64.ofInt r0) := by cases h; rw [hV]
theorem l32_m1 : (-1 : Int32) = Int32.ofInt (-1) := by decide
theorem l32_0 : (0 : Int32) = Int32.ofInt 0 := by decide
theorem l32_1 : (1 : Int32) = Int32.ofInt 1 := by decide
theorem l32_2 : (2 : Int32) = Int32.ofInt 2 := by decide
theorem l32_3 : (3 : Int32) = Int32.ofInt 3 := by decide
theorem l32_4 : (4 : Int32) = Int32.ofInt 4 := by decide
theorem l32_5 : (5 : Int32) = Int32.ofInt 5 := by decide
theorem l32_6 : (6 : Int32) = Int32.ofInt 6 := by decide
theorem l32_7 : (7 : Int32) = Int32.ofInt 7 := by decide
theorem l32_8 : (8 : Int32) = Int32.ofInt 8 := by decide
theorem l32_9 : (9 : Int32) = Int32.ofInt 9 := by decide
theorem l32_10 : (10 : Int32) = Int32.ofInt 10 := by decide
theorem l32_11 : (11 : Int32) = Int32.ofInt 11 := by decide
theorem l32_12 : (12 : Int32) = Int32.ofInt 12 := by decide
theorem l32_13 : (13 : Int32) = Int32.ofInt 13 := by decide
theorem l32_14 : (14 : Int32) = Int32.ofInt 14 := by decide
theorem l32_15 : (15 : Int32) = Int32.ofInt 15 := by decide
theorem l32_16 : (16 : Int32) = Int32.ofInt 16 := by decide
theorem l32_17 : (17 : Int32) = Int32.ofInt 17 := by decide
theorem l32_18 : (18 : Int32) = Int32.ofInt 18 := by decide
theorem l32_19 : (19 : Int32) = Int32.ofInt 19 := by decide
theorem l32_20 : (20 : Int32) = Int32.ofInt 20 := by decide
theorem l32_21 : (21 : Int32) = Int32.ofInt 21 := by decide
theorem l32_22 : (22 : Int32) = Int32.ofInt 22 := by decide
theorem l32_23 : (23 : Int32) = Int32.ofInt 23 := by decide
theorem l32_24 : (24 : Int32) = Int32.ofInt 24 := by decide
theorem l32_25 : (25 : Int32) = Int32.ofInt 25 := by decide
theorem l32_26 : (26 : Int32) = Int32.ofInt 26 := by decide
theorem l32_27 : (27 : Int32) = Int32.ofInt 27 := by decide
theorem l32_28 : (28 : Int32) = Int32.ofInt 28 := by decide
theorem l32_29 : (29 : Int32) = Int32.ofInt 29 := by decide
theorem l32_30 : (30 : Int32) = Int32.ofInt 30 := by decide
theorem l32_31 : (31 : Int32) = Int32.ofInt 31 := by decide
theorem l32_32 : (32 : Int32) = Int32.ofInt 32 := by decide
theorem l32_33 : (33 : Int32) = Int32.ofInt 33 := by decide
theorem l32_35 : (35 : Int32) = Int32.ofInt 35 := by decide
theorem l32_36 : (36 : Int32) = Int32.ofInt 36 := by decide
theorem l32_37 : (37 : Int32) = Int32.ofInt 37 := by decide
theorem l32_38 : (38 : Int32) = Int32.ofInt 38 := by decide
theorem l32_40 : (40 : Int32) = Int32.ofInt 40 := by decide
theorem l32_50 : (50 : Int32) = Int32.ofInt 50 := by decide
theorem l32_54 : (54 : Int32) = Int32.ofInt 54 := by decide
theorem l32_64 : (64 : Int32) = Int32.ofInt 64 := by decide
theorem l32_70 : (70 : Int32) = Int32.ofInt 70 := by decide
theorem l32_100 : (100 : Int32) = Int32.ofInt 100 := by decide
theorem l32_128 : (128 : Int32) = Int32.ofInt 128 := by decide
theorem l32_200 : (200 : Int32) = Int32.ofInt 200 := by decide
theorem l32_256 : (256 : Int32) = Int32.ofInt 256 := by decide
theorem l32_1000 : (1000 : Int32) = Int32.ofInt 1000 := by decide
theorem l32_65536 : (65536 : Int32) = Int32.ofInt 65536 := by decide
theorem l32_1000000 : (1000000 : Int32) = Int32.ofInt 1000000 := by decide
theorem l64_m1 : (-1 : Int64) = Int64.ofInt (-1) := by decide
theorem l64_0 : (0 : Int64) = Int64.ofInt 0 := by decide
theorem l64_256 : (256 : Int64) = Int64.ofInt 256 := by decide
theorem l64_65536 : (65536 : Int64) = Int64.ofInt 65536 := by decide
theorem l64_1048576 : (1048576 : Int64) = Int64.ofInt 1048576 := by decide
theorem l64_4294967296 : (4294967296 : Int64) = Int64.ofInt 4294967296 := by decide
end
section
def di_X_isNode (x0 : Int) : Option Int :=
  (rg x0).bind fun _ =>
  if x0 < (0 : Int) then
    (biz (0 : Int)).bind fun _ =>
    some (0 : Int)
  else
    if (8 : Int) ≤ x0 then
      (biz (0 : Int)).bind fun _ =>
      some (0 : Int)
    else
      (biz (1 : Int)).bind fun _ =>
      some (1 : Int)
def di_X_isWithin (x0 : Int) (x1 : Int) (x2 : Int) : Option Int :=
  (rg x0).bind fun _ =>
  (rg x1).bind fun _ =>
  if x0 < x1 then
    (biz (0 : Int)).bind fun _ =>
    some (0 : Int)
  else
    (rg x2).bind fun _ =>
    if x2 < x0 then
      (biz (0 : Int)).bind fun _ =>
      some (0 : Int)
    else
      (biz (1 : Int)).bind fun _ =>
      some (1 : Int)
def di_J_fillX7_5 (k20 : MemI → Option MemI) : Nat → Nat → Int → Int → Int → MemI → Option MemI
  | 0, _, _, _, _, _ => none
  | n + 1, x0, x1, x2, x3, z =>
    (rg x3).bind fun _ =>
    (rg x2).bind fun _ =>
    if x3 ≤ x2 then
      k20 z
    else
      (aiz 6 x2).bind fun j1 =>
      stN (pN z 7 x0 j1 x1) fun z2 =>
      di_J_fillX7_5 k20 n x0 x1 (x2 + (1 : Int)) x3 z2
def di_J_fillX7 (x0 : Nat) (x1 : Int) (z : MemI) : Option MemI :=
  di_J_fillX7_5
    (fun z3 =>
      some z3)
    FU x0 x1 (0 : Int) (6 : Int) z
def di_P_lay (x0 : Nat) (x1 : Int) (x2 : Int) (x3 : Int) (x4 : Int) (x5 : Int) (z : MemI) : Option MemI :=
  stN (pN z 4 x0 0 x1) fun z1 =>
  stN (pN z1 4 x0 1 x2) fun z2 =>
  stN (pN z2 4 x0 2 x3) fun z3 =>
  stN (pN z3 4 x0 3 x4) fun z4 =>
  stN (pN z4 4 x0 4 x5) fun z5 =>
  stN (pN z5 4 x0 5 (8 : Int)) fun z6 =>
  stN (pN z6 4 x0 6 (4 : Int)) fun z7 =>
  stN (pN z7 4 x0 7 (-1 : Int)) fun z8 =>
  stN (pN z8 4 x0 8 (0 : Int)) fun z9 =>
  stN (pN z9 4 x0 9 (0 : Int)) fun z10 =>
  (biz (0 : Int)).bind fun _ =>
  stN (pN z10 4 x0 10 (0 : Int)) fun z12 =>
  (di_J_fillX7 x0 (0 : Int) z12).bind fun z13 =>
  some z13
def di_X_shortenOver_13 (k119 : Int → Int → Int → Int → MemI → Option MemI) : Nat → Int → Int → Int → Int → Int → MemI → Option MemI
  | 0, _, _, _, _, _, _ => none
  | n + 1, x1, x2, x3, x4, x5, z =>
    (rg x5).bind fun _ =>
    if (8 : Int) ≤ x5 then
      k119 x1 x2 x3 x4 z
    else
      (aiz 8 x4).bind fun j1 =>
      (aiz 8 x1).bind fun j2 =>
      (rg (z.1 2 j1 j2)).bind fun _ =>
      if (z.1 2 j1 j2) = (-1 : Int) then
        di_X_shortenOver_13 k119 n x1 x2 x3 x4 (x5 + (1 : Int)) z
      else
        (aiz 8 x2).bind fun j3 =>
        (aiz 8 x5).bind fun j4 =>
        (rg (z.1 2 j3 j4)).bind fun _ =>
        if (z.1 2 j3 j4) = (-1 : Int) then
          di_X_shortenOver_13 k119 n x1 x2 x3 x4 (x5 + (1 : Int)) z
        else
          (aiz 8 x4).bind fun j5 =>
          (aiz 8 x1).bind fun j6 =>
          (aiz 8 x2).bind fun j7 =>
          (aiz 8 x5).bind fun j8 =>
          stW (((z.1 2 j5 j6) + x3) + (z.1 2 j7 j8)) fun v9 =>
          (aiz 8 x4).bind fun j10 =>
          (aiz 8 x5).bind fun j11 =>
          (rg (z.1 2 j10 j11)).bind fun _ =>
          if (z.1 2 j10 j11) = (-1 : Int) then
            (aiz 8 x4).bind fun j12 =>
            (aiz 8 x5).bind fun j13 =>
            stN (pN z 2 j12 j13 v9) fun z14 =>
            di_X_shortenOver_13 k119 n x1 x2 x3 x4 (x5 + (1 : Int)) z14
          else
            (aiz 8 x4).bind fun j15 =>
            (aiz 8 x5).bind fun j16 =>
            (rg (z.1 2 j15 j16)).bind fun _ =>
            (rg v9).bind fun _ =>
            if (z.1 2 j15 j16) ≤ v9 then
              di_X_shortenOver_13 k119 n x1 x2 x3 x4 (x5 + (1 : Int)) z
            else
              (aiz 8 x4).bind fun j17 =>
              (aiz 8 x5).bind fun j18 =>
              stN (pN z 2 j17 j18 v9) fun z19 =>
              di_X_shortenOver_13 k119 n x1 x2 x3 x4 (x5 + (1 : Int)) z19
def di_X_shortenOver_3 (k125 : MemI → Option MemI) : Nat → Int → Int → Int → Int → MemI → Option MemI
  | 0, _, _, _, _, _ => none
  | n + 1, x1, x2, x3, x4, z =>
    (rg x4).bind fun _ =>
    if (8 : Int) ≤ x4 then
      k125 z
    else
      di_X_shortenOver_13
        (fun x1 x2 x3 x4 z20 =>
          di_X_shortenOver_3 k125 n x1 x2 x3 (x4 + (1 : Int)) z20)
        FU x1 x2 x3 x4 (0 : Int) z
def di_X_shortenOver (x1 : Int) (x2 : Int) (x3 : Int) (z : MemI) : Option MemI :=
  di_X_shortenOver_3
    (fun z21 =>
      some z21)
    FU x1 x2 x3 (0 : Int) z
def di_X_link (x1 : Int) (x2 : Int) (x3 : Int) (x4 : Int) (x5 : Int) (z : MemI) : Option (Int × MemI) :=
  (rg (z.1 0 0 9)).bind fun _ =>
  if (z.1 0 0 9) = (0 : Int) then
    (rg (z.1 0 0 6)).bind fun _ =>
    if (12 : Int) ≤ (z.1 0 0 6) then
      some ((-1 : Int), z)
    else
      (di_X_isNode x1).bind fun v1 =>
      (rg v1).bind fun _ =>
      if v1 = (0 : Int) then
        some ((-1 : Int), z)
      else
        (di_X_isNode x2).bind fun v2 =>
        (rg v2).bind fun _ =>
        if v2 = (0 : Int) then
          some ((-1 : Int), z)
        else
          (rg x1).bind fun _ =>
          (rg x2).bind fun _ =>
          if x1 = x2 then
            some ((-1 : Int), z)
          else
            (di_X_isWithin x3 (1 : Int) (100 : Int)).bind fun v3 =>
            (rg v3).bind fun _ =>
            if v3 = (0 : Int) then
              some ((-1 : Int), z)
            else
              (di_X_isWithin x4 (1 : Int) (16 : Int)).bind fun v4 =>
              (rg v4).bind fun _ =>
              if v4 = (0 : Int) then
                some ((-1 : Int), z)
              else
                (di_X_isWithin x5 (0 : Int) (40 : Int)).bind fun v5 =>
                (rg v5).bind fun _ =>
                if v5 = (0 : Int) then
                  some ((-1 : Int), z)
                else
                  (aiz 24 ((2 : Int) * (z.1 0 0 6))).bind fun j6 =>
                  (di_P_lay j6 x1 x2 x3 x4 x5 z).bind fun z7 =>
                  (aiz 24 (((2 : Int) * (z.1 0 0 6)) + (1 : Int))).bind fun j8 =>
                  (di_P_lay j8 x2 x1 x3 x4 x5 z7).bind fun z9 =>
                  stN (pN z9 0 0 6 ((z9.1 0 0 6) + (1 : Int))) fun z10 =>
                  (di_X_shortenOver x1 x2 x3 z10).bind fun z11 =>
                  (di_X_shortenOver x2 x1 x3 z11).bind fun z12 =>
                  some ((z.1 0 0 6), z12)
  else
    some ((-1 : Int), z)
def di_X_isPort (x1 : Int) (z : MemI) : Option (Int × MemI) :=
  (di_X_isWithin x1 (0 : Int) (((2 : Int) * (z.1 0 0 6)) - (1 : Int))).bind fun v1 =>
  (biz v1).bind fun _ =>
  some (v1, z)
def di_X_shape (x1 : Int) (x2 : Int) (x3 : Int) (z : MemI) : Option (Int × MemI) :=
  (rg (z.1 0 0 9)).bind fun _ =>
  if (z.1 0 0 9) = (0 : Int) then
    (di_X_isPort x1 z).bind fun r2 =>
    (rg r2.1).bind fun _ =>
    if r2.1 = (0 : Int) then
      (biz (0 : Int)).bind fun _ =>
      some ((0 : Int), r2.2)
    else
      (di_X_isWithin x2 (1 : Int) (16 : Int)).bind fun v4 =>
      (rg v4).bind fun _ =>
      if v4 = (0 : Int) then
        (biz (0 : Int)).bind fun _ =>
        some ((0 : Int), r2.2)
      else
        (di_X_isWithin x3 (1 : Int) (8 : Int)).bind fun v6 =>
        (rg v6).bind fun _ =>
        if v6 = (0 : Int) then
          (biz (0 : Int)).bind fun _ =>
          some ((0 : Int), r2.2)
        else
          (aiz 24 x1).bind fun j7 =>
          stN (pN r2.2 4 j7 5 x2) fun z8 =>
          (aiz 24 x1).bind fun j9 =>
          stN (pN z8 4 j9 6 x3) fun z10 =>
          (biz (1 : Int)).bind fun _ =>
          some ((1 : Int), z10)
  else
    (biz (0 : Int)).bind fun _ =>
    some ((0 : Int), z)
def di_F_found (x0 : Nat) (x1 : Int) (x2 : Int) (x3 : Int) (x4 : Int) (z : MemI) : Option MemI :=
  stN (pN z 9 x0 0 x1) fun z1 =>
  stN (pN z1 9 x0 1 x2) fun z2 =>
  stN (pN z2 9 x0 2 x3) fun z3 =>
  stN (pN z3 9 x0 3 x4) fun z4 =>
  stN (pN z4 9 x0 4 (4 : Int)) fun z5 =>
  stN (pN z5 9 x0 5 (100 : Int)) fun z6 =>
  stN (pN z6 9 x0 6 (0 : Int)) fun z7 =>
  stN (pN z7 9 x0 7 (0 : Int)) fun z8 =>
  stN (pN z8 9 x0 8 (0 : Int)) fun z9 =>
  stN (pN z9 9 x0 9 (0 : Int)) fun z10 =>
  stN (pN z10 9 x0 10 (0 : Int)) fun z11 =>
  stN (pN z11 9 x0 11 (0 : Int)) fun z12 =>
  stN (pN z12 9 x0 12 (0 : Int)) fun z13 =>
  stN (pN z13 9 x0 13 (0 : Int)) fun z14 =>
  some z14
def di_X_flow (x1 : Int) (x2 : Int) (x3 : Int) (x4 : Int) (z : MemI) : Option (Int × MemI) :=
  (rg (z.1 0 0 9)).bind fun _ =>
  if (z.1 0 0 9) = (0 : Int) then
    (rg (z.1 0 0 7)).bind fun _ =>
    if (6 : Int) ≤ (z.1 0 0 7) then
      some ((-1 : Int), z)
    else
      (di_X_isNode x1).bind fun v1 =>
      (rg v1).bind fun _ =>
      if v1 = (0 : Int) then
        some ((-1 : Int), z)
      else
        (di_X_isNode x2).bind fun v2 =>
        (rg v2).bind fun _ =>
        if v2 = (0 : Int) then
          some ((-1 : Int), z)
        else
          (rg x1).bind fun _ =>
          (rg x2).bind fun _ =>
          if x1 = x2 then
            some ((-1 : Int), z)
          else
            (di_X_isWithin x3 (1 : Int) (100 : Int)).bind fun v3 =>
            (rg v3).bind fun _ =>
            if v3 = (0 : Int) then
              some ((-1 : Int), z)
            else
              (di_X_isWithin x4 (1 : Int) (8 : Int)).bind fun v4 =>
              (rg v4).bind fun _ =>
              if v4 = (0 : Int) then
                some ((-1 : Int), z)
              else
                (aiz 6 (z.1 0 0 7)).bind fun j5 =>
                (di_F_found j5 x1 x2 x3 x4 z).bind fun z6 =>
                stN (pN z6 0 0 7 ((z6.1 0 0 7) + (1 : Int))) fun z7 =>
                some ((z.1 0 0 7), z7)
  else
    some ((-1 : Int), z)
def di_X_isFlow (x1 : Int) (z : MemI) : Option (Int × MemI) :=
  (di_X_isWithin x1 (0 : Int) ((z.1 0 0 7) - (1 : Int))).bind fun v1 =>
  (biz v1).bind fun _ =>
  some (v1, z)
def di_X_tune (x1 : Int) (x2 : Int) (x3 : Int) (x4 : Int) (z : MemI) : Option (Int × MemI) :=
  (rg (z.1 0 0 9)).bind fun _ =>
  if (z.1 0 0 9) = (0 : Int) then
    (di_X_isFlow x1 z).bind fun r2 =>
    (rg r2.1).bind fun _ =>
    if r2.1 = (0 : Int) then
      (biz (0 : Int)).bind fun _ =>
      some ((0 : Int), r2.2)
    else
      (di_X_isWithin x2 (1 : Int) (8 : Int)).bind fun v4 =>
      (rg v4).bind fun _ =>
      if v4 = (0 : Int) then
        (biz (0 : Int)).bind fun _ =>
        some ((0 : Int), r2.2)
      else
        (di_X_isWithin x3 (1 : Int) (200 : Int)).bind fun v5 =>
        (rg v5).bind fun _ =>
        if v5 = (0 : Int) then
          (biz (0 : Int)).bind fun _ =>
          some ((0 : Int), r2.2)
        else
          (di_X_isWithin x4 (0 : Int) (1000 : Int)).bind fun v7 =>
          (rg v7).bind fun _ =>
          if v7 = (0 : Int) then
            (biz (0 : Int)).bind fun _ =>
            some ((0 : Int), r2.2)
          else
            (aiz 6 x1).bind fun j8 =>
            stN (pN r2.2 9 j8 4 x2) fun z9 =>
            (aiz 6 x1).bind fun j10 =>
            stN (pN z9 9 j10 5 x3) fun z11 =>
            (aiz 6 x1).bind fun j12 =>
            stN (pN z11 9 j12 6 x4) fun z13 =>
            (biz (1 : Int)).bind fun _ =>
            some ((1 : Int), z13)
  else
    (biz (0 : Int)).bind fun _ =>
    some ((0 : Int), z)
def di_J_fillX2_5 (k20 : MemI → Option MemI) : Nat → Nat → Int → Int → Int → MemI → Option MemI
  | 0, _, _, _, _, _ => none
  | n + 1, x0, x1, x2, x3, z =>
    (rg x3).bind fun _ =>
    (rg x2).bind fun _ =>
    if x3 ≤ x2 then
      k20 z
    else
      (aiz 8 x2).bind fun j1 =>
      stN (pN z 2 x0 j1 x1) fun z2 =>
      di_J_fillX2_5 k20 n x0 x1 (x2 + (1 : Int)) x3 z2
def di_J_fillX2 (x0 : Nat) (x1 : Int) (z : MemI) : Option MemI :=
  di_J_fillX2_5
    (fun z3 =>
      some z3)
    FU x0 x1 (0 : Int) (8 : Int) z
def di_J_fillX13_5 (k20 : MemI → Option MemI) : Nat → Int → Int → Int → MemI → Option MemI
  | 0, _, _, _, _ => none
  | n + 1, x1, x2, x3, z =>
    (rg x3).bind fun _ =>
    (rg x2).bind fun _ =>
    if x3 ≤ x2 then
      k20 z
    else
      (aiz 70 x2).bind fun j1 =>
      stN (pN z 13 0 j1 x1) fun z2 =>
      di_J_fillX13_5 k20 n x1 (x2 + (1 : Int)) x3 z2
def di_J_fillX13 (x1 : Int) (z : MemI) : Option MemI :=
  di_J_fillX13_5
    (fun z3 =>
      some z3)
    FU x1 (0 : Int) (70 : Int) z
def di_A_unsetAll (z : MemI) : Option MemI :=
  (di_J_fillX13 (0 : Int) z).bind fun z1 =>
  stN (pN z1 12 0 3 (0 : Int)) fun z2 =>
  some z2
def di_J_fillX16_6 (k22 : MemI → Option MemI) : Nat → Int → Int → Int → MemI → Option MemI
  | 0, _, _, _, _ => none
  | n + 1, x1, x3, x4, z =>
    (rg x4).bind fun _ =>
    (rg x3).bind fun _ =>
    if x4 ≤ x3 then
      k22 z
    else
      (aiz 16 x3).bind fun j1 =>
      stN (pM z j1 x1) fun z2 =>
      di_J_fillX16_6 k22 n x1 (x3 + (1 : Int)) x4 z2
def di_J_fillX16 (x1 : Int) (z : MemI) : Option MemI :=
  di_J_fillX16_6
    (fun z3 =>
      some z3)
    FU x1 (0 : Int) (16 : Int) z
def di_X_clear_22 (k53 : MemI → Option MemI) : Nat → Int → MemI → Option MemI
  | 0, _, _ => none
  | n + 1, x1, z =>
    (rg x1).bind fun _ =>
    if (8 : Int) ≤ x1 then
      k53 z
    else
      (aiz 8 x1).bind fun j6 =>
      (di_J_fillX2 j6 (-1 : Int) z).bind fun z7 =>
      (aiz 8 x1).bind fun j8 =>
      (aiz 8 x1).bind fun j9 =>
      stN (pN z7 2 j8 j9 (0 : Int)) fun z10 =>
      di_X_clear_22 k53 n (x1 + (1 : Int)) z10
def di_X_clear_55 (k77 : MemI → Option MemI) : Nat → Int → MemI → Option MemI
  | 0, _, _ => none
  | n + 1, x1, z =>
    (rg x1).bind fun _ =>
    if (64 : Int) ≤ x1 then
      k77 z
    else
      (aiz 64 x1).bind fun j12 =>
      (biz (0 : Int)).bind fun _ =>
      stN (pN z 11 j12 0 (0 : Int)) fun z14 =>
      di_X_clear_55 k77 n (x1 + (1 : Int)) z14
def di_X_clear (z : MemI) : Option MemI :=
  (biz (0 : Int)).bind fun _ =>
  stN (pN z 0 0 9 (0 : Int)) fun z2 =>
  stN (pN z2 0 0 8 (0 : Int)) fun z3 =>
  stN (pN z3 0 0 6 (0 : Int)) fun z4 =>
  stN (pN z4 0 0 7 (0 : Int)) fun z5 =>
  di_X_clear_22
    (fun z11 =>
      di_X_clear_55
        (fun z15 =>
          (di_A_unsetAll z15).bind fun z16 =>
          (di_J_fillX16 (-1 : Int) z16).bind fun z17 =>
          some z17)
        FU (0 : Int) z11)
    FU (0 : Int) z5
def di_A_set (x1 : Int) (x2 : Int) (x3 : Int) (z : MemI) : Option MemI :=
  (aiz 70 x1).bind fun j1 =>
  stN (pN z 13 0 j1 x2) fun z2 =>
  (aiz 70 x1).bind fun j3 =>
  stN (pN z2 14 0 j3 x3) fun z4 =>
  (aiz 70 x1).bind fun j5 =>
  stN (pN z4 15 0 j5 (z4.1 12 0 3)) fun z6 =>
  stN (pN z6 12 0 3 ((z6.1 12 0 3) + (1 : Int))) fun z7 =>
  some z7
def di_X_begin_15 (k47 : MemI → Option MemI) : Nat → Int → MemI → Option MemI
  | 0, _, _ => none
  | n + 1, x1, z =>
    (rg (z.1 0 0 7)).bind fun _ =>
    (rg x1).bind fun _ =>
    if (z.1 0 0 7) ≤ x1 then
      k47 z
    else
      (aiz 6 x1).bind fun j3 =>
      (di_A_set x1 (1 : Int) (z.1 9 j3 6) z).bind fun z4 =>
      di_X_begin_15 k47 n (x1 + (1 : Int)) z4
def di_X_begin (z : MemI) : Option MemI :=
  (rg (z.1 0 0 9)).bind fun _ =>
  if (z.1 0 0 9) = (0 : Int) then
    (biz (1 : Int)).bind fun _ =>
    stN (pN z 0 0 9 (1 : Int)) fun z2 =>
    di_X_begin_15
      (fun z5 =>
        some z5)
      FU (0 : Int) z2
  else
    some z
def di_A_isBefore (x1 : Int) (x2 : Int) (z : MemI) : Option (Int × MemI) :=
  (aiz 70 x1).bind fun j1 =>
  (aiz 70 x2).bind fun j2 =>
  (rg (z.1 14 0 j1)).bind fun _ =>
  (rg (z.1 14 0 j2)).bind fun _ =>
  if (z.1 14 0 j1) < (z.1 14 0 j2) then
    (biz (1 : Int)).bind fun _ =>
    some ((1 : Int), z)
  else
    (aiz 70 x1).bind fun j4 =>
    (aiz 70 x2).bind fun j5 =>
    (rg (z.1 14 0 j4)).bind fun _ =>
    (rg (z.1 14 0 j5)).bind fun _ =>
    if (z.1 14 0 j4) = (z.1 14 0 j5) then
      (aiz 70 x1).bind fun j7 =>
      (aiz 70 x2).bind fun j8 =>
      (rg (z.1 15 0 j8)).bind fun _ =>
      (rg (z.1 15 0 j7)).bind fun _ =>
      if (z.1 15 0 j8) ≤ (z.1 15 0 j7) then
        (biz (0 : Int)).bind fun _ =>
        some ((0 : Int), z)
      else
        (biz (1 : Int)).bind fun _ =>
        some ((1 : Int), z)
    else
      (biz (0 : Int)).bind fun _ =>
      some ((0 : Int), z)
def di_A_firstSlot_4 (k41 : Int → MemI → Option (Int × MemI)) : Nat → Int → Int → MemI → Option (Int × MemI)
  | 0, _, _, _ => none
  | n + 1, x1, x2, z =>
    (rg x2).bind fun _ =>
    if (70 : Int) ≤ x2 then
      k41 x1 z
    else
      (aiz 70 x2).bind fun j1 =>
      (rg (z.1 13 0 j1)).bind fun _ =>
      if (z.1 13 0 j1) = (0 : Int) then
        di_A_firstSlot_4 k41 n x1 (x2 + (1 : Int)) z
      else
        (rg x1).bind fun _ =>
        if x1 = (-1 : Int) then
          di_A_firstSlot_4 k41 n x2 (x2 + (1 : Int)) z
        else
          (di_A_isBefore x2 x1 z).bind fun r2 =>
          (rg r2.1).bind fun _ =>
          if r2.1 = (0 : Int) then
            di_A_firstSlot_4 k41 n x1 (x2 + (1 : Int)) r2.2
          else
            di_A_firstSlot_4 k41 n x2 (x2 + (1 : Int)) r2.2
def di_A_firstSlot (z : MemI) : Option (Int × MemI) :=
  di_A_firstSlot_4
    (fun x1 z3 =>
      some (x1, z3))
    FU (-1 : Int) (0 : Int) z
def di_A_unset (x1 : Int) (z : MemI) : Option MemI :=
  (aiz 70 x1).bind fun j1 =>
  stN (pN z 13 0 j1 (0 : Int)) fun z2 =>
  some z2
def di_X_remember (x1 : Int) (x2 : Int) (x3 : Int) (z : MemI) : Option MemI :=
  (acz 16 (0 : Int) (1 : Int) (15 : Int)).bind fun _ =>
  stN (cM z (0 : Int) (1 : Int) (15 : Int)) fun z2 =>
  (aiz 16 (0 : Int)).bind fun j3 =>
  (rg (z2.1 0 0 8)).bind fun _ =>
  (rg (x1 * (65536 : Int))).bind fun _ =>
  (rg (x2 * (256 : Int))).bind fun _ =>
  (rg x3).bind fun _ =>
  stN (pM z2 j3 (((((z2.1 0 0 8) * (1048576 : Int)) + (x1 * (65536 : Int))) + (x2 * (256 : Int))) + x3)) fun z4 =>
  some z4
def di_M_min (x0 : Int) (x1 : Int) : Option Int :=
  (rg x1).bind fun _ =>
  (rg x0).bind fun _ =>
  if x1 < x0 then
    some x1
  else
    some x0
def di_X_hasTimer (x1 : Int) (z : MemI) : Option (Int × MemI) :=
  (aiz 70 x1).bind fun j1 =>
  (rg (z.1 13 0 j1)).bind fun _ =>
  if (z.1 13 0 j1) = (4 : Int) then
    (biz (1 : Int)).bind fun _ =>
    some ((1 : Int), z)
  else
    (biz (0 : Int)).bind fun _ =>
    some ((0 : Int), z)
def di_K_enter (x0 : Nat) (x1 : Int) (x2 : Int) (x3 : Int) (x4 : Nat) (z : MemI) : Option MemI :=
  (biz (1 : Int)).bind fun _ =>
  stN (pN z 11 x0 0 (1 : Int)) fun z2 =>
  (biz x3).bind fun _ =>
  stN (pN z2 11 x0 1 x3) fun z4 =>
  stN (pN z4 11 x0 2 x1) fun z5 =>
  stN (pN z5 11 x0 3 x2) fun z6 =>
  (rg x3).bind fun _ =>
  if x3 = (0 : Int) then
    stN (pN z6 11 x0 4 (z6.1 9 x4 3)) fun z7 =>
    if x3 = (0 : Int) then
      stN (pN z7 11 x0 5 (z7.1 9 x4 1)) fun z8 =>
      some z8
    else
      stN (pN z7 11 x0 5 (z7.1 9 x4 0)) fun z9 =>
      some z9
  else
    stN (pN z6 11 x0 4 (1 : Int)) fun z10 =>
    if x3 = (0 : Int) then
      stN (pN z10 11 x0 5 (z10.1 9 x4 1)) fun z11 =>
      some z11
    else
      stN (pN z10 11 x0 5 (z10.1 9 x4 0)) fun z12 =>
      some z12
def di_X_make_18 (k38 : Int → Int → Int → Int → MemI → Option (Int × MemI)) (k66 : Int → MemI → Option (Int × MemI)) : Nat → Int → Int → Int → Int → MemI → Option (Int × MemI)
  | 0, _, _, _, _, _ => none
  | n + 1, x1, x2, x3, x4, z =>
    (rg x4).bind fun _ =>
    if (64 : Int) ≤ x4 then
      k66 x1 z
    else
      (aiz 64 x4).bind fun j3 =>
      (rg (z.1 11 j3 0)).bind fun _ =>
      if (z.1 11 j3 0) = (0 : Int) then
        k38 x1 x2 x3 x4 z
      else
        di_X_make_18 k38 k66 n x1 x2 x3 (x4 + (1 : Int)) z
def di_X_make (x1 : Int) (x2 : Int) (x3 : Int) (z : MemI) : Option (Int × MemI) :=
  (aiz 6 x1).bind fun j1 =>
  stN (pN z 9 j1 10 ((z.1 9 j1 10) + (1 : Int))) fun z2 =>
  di_X_make_18
    (fun x1 x2 x3 x4 z4 =>
      (aiz 64 x4).bind fun j5 =>
      (aiz 6 x1).bind fun j6 =>
      (di_K_enter j5 x1 x2 x3 j6 z4).bind fun z7 =>
      some (x4, z7))
    (fun x1 z8 =>
      (aiz 6 x1).bind fun j9 =>
      stN (pN z8 9 j9 12 ((z8.1 9 j9 12) + (1 : Int))) fun z10 =>
      some ((-1 : Int), z10))
    FU x1 x2 x3 (0 : Int) z2
def di_X_way_35 (k91 : Int → MemI → Option (Int × MemI)) (k99 : MemI → Option (Int × MemI)) : Nat → Int → Int → Int → MemI → Option (Int × MemI)
  | 0, _, _, _, _ => none
  | n + 1, x1, x2, x3, z =>
    (rg ((2 : Int) * (z.1 0 0 6))).bind fun _ =>
    (rg x3).bind fun _ =>
    if ((2 : Int) * (z.1 0 0 6)) ≤ x3 then
      k99 z
    else
      (aiz 24 x3).bind fun j5 =>
      (rg (z.1 4 j5 0)).bind fun _ =>
      (rg x1).bind fun _ =>
      if (z.1 4 j5 0) = x1 then
        (aiz 8 (z.1 4 j5 1)).bind fun j6 =>
        (aiz 8 x2).bind fun j7 =>
        (aiz 8 x1).bind fun j8 =>
        (aiz 8 x2).bind fun j9 =>
        (rg ((z.1 4 j5 2) + (z.1 2 j6 j7))).bind fun _ =>
        (rg (z.1 2 j8 j9)).bind fun _ =>
        if ((z.1 4 j5 2) + (z.1 2 j6 j7)) = (z.1 2 j8 j9) then
          k91 x3 z
        else
          di_X_way_35 k91 k99 n x1 x2 (x3 + (1 : Int)) z
      else
        di_X_way_35 k91 k99 n x1 x2 (x3 + (1 : Int)) z
def di_X_way (x1 : Int) (x2 : Int) (z : MemI) : Option (Int × MemI) :=
  (di_X_isNode x1).bind fun v1 =>
  (rg v1).bind fun _ =>
  if v1 = (0 : Int) then
    some ((-1 : Int), z)
  else
    (di_X_isNode x2).bind fun v2 =>
    (rg v2).bind fun _ =>
    if v2 = (0 : Int) then
      some ((-1 : Int), z)
    else
      (rg x1).bind fun _ =>
      (rg x2).bind fun _ =>
      if x1 = x2 then
        some ((-1 : Int), z)
      else
        (aiz 8 x1).bind fun j3 =>
        (aiz 8 x2).bind fun j4 =>
        (rg (z.1 2 j3 j4)).bind fun _ =>
        if (z.1 2 j3 j4) = (-1 : Int) then
          some ((-1 : Int), z)
        else
          di_X_way_35
            (fun x3 z10 =>
              some (x3, z10))
            (fun z11 =>
              some ((-1 : Int), z11))
            FU x1 x2 (0 : Int) z
def di_X_queuedOf_5 (k42 : Int → MemI → Option (Int × MemI)) : Nat → Nat → Int → Int → Int → MemI → Option (Int × MemI)
  | 0, _, _, _, _, _ => none
  | n + 1, x1, x2, x3, x4, z =>
    (rg (z.1 4 x1 8)).bind fun _ =>
    (rg x4).bind fun _ =>
    if (z.1 4 x1 8) ≤ x4 then
      k42 x3 z
    else
      (aiz 8 x4).bind fun j1 =>
      (aiz 64 (z.1 5 x1 j1)).bind fun j2 =>
      (rg (z.1 11 j2 2)).bind fun _ =>
      (rg x2).bind fun _ =>
      if (z.1 11 j2 2) = x2 then
        di_X_queuedOf_5 k42 n x1 x2 (x3 + (1 : Int)) (x4 + (1 : Int)) z
      else
        di_X_queuedOf_5 k42 n x1 x2 x3 (x4 + (1 : Int)) z
def di_X_queuedOf (x1 : Nat) (x2 : Int) (z : MemI) : Option (Int × MemI) :=
  di_X_queuedOf_5
    (fun x3 z3 =>
      some (x3, z3))
    FU x1 x2 (0 : Int) (0 : Int) z
def di_P_serveFirst (x0 : Nat) (z : MemI) : Option MemI :=
  (rg (z.1 4 x0 10)).bind fun _ =>
  if (z.1 4 x0 10) = (0 : Int) then
    (aiz 6 (0 : Int)).bind fun j1 =>
    (aiz 6 (z.1 6 x0 j1)).bind fun j2 =>
    (aiz 6 (z.1 6 x0 j1)).bind fun j3 =>
    stN (pN z 7 x0 j3 ((z.1 7 x0 j2) + (z.1 4 x0 5))) fun z4 =>
    (biz (1 : Int)).bind fun _ =>
    stN (pN z4 4 x0 10 (1 : Int)) fun z6 =>
    some z6
  else
    some z
def di_X_firstPlaceOf_2 (k36 : Int → MemI → Option (Int × MemI)) : Nat → Nat → Int → Int → MemI → Option (Int × MemI)
  | 0, _, _, _, _ => none
  | n + 1, x1, x2, x3, z =>
    (rg ((z.1 4 x1 8) - (1 : Int))).bind fun _ =>
    (rg x3).bind fun _ =>
    if ((z.1 4 x1 8) - (1 : Int)) ≤ x3 then
      k36 x3 z
    else
      (aiz 8 x3).bind fun j1 =>
      (aiz 64 (z.1 5 x1 j1)).bind fun j2 =>
      (rg (z.1 11 j2 2)).bind fun _ =>
      (rg x2).bind fun _ =>
      if (z.1 11 j2 2) = x2 then
        k36 x3 z
      else
        di_X_firstPlaceOf_2 k36 n x1 x2 (x3 + (1 : Int)) z
def di_X_firstPlaceOf (x1 : Nat) (x2 : Int) (z : MemI) : Option (Int × MemI) :=
  di_X_firstPlaceOf_2
    (fun x3 z3 =>
      some (x3, z3))
    FU x1 x2 (0 : Int) z
def di_P_dropFirst (x0 : Nat) (z : MemI) : Option MemI :=
  (rg (z.1 4 x0 9)).bind fun _ =>
  if (z.1 4 x0 9) ≤ (0 : Int) then
    some z
  else
    stN (pN z 4 x0 9 ((z.1 4 x0 9) - (1 : Int))) fun z1 =>
    (acz 6 (1 : Int) (0 : Int) (z1.1 4 x0 9)).bind fun _ =>
    stN (cN z1 6 x0 (1 : Int) (0 : Int) (z1.1 4 x0 9)) fun z3 =>
    (biz (0 : Int)).bind fun _ =>
    stN (pN z3 4 x0 10 (0 : Int)) fun z5 =>
    some z5
def di_P_append (x0 : Nat) (x1 : Int) (z : MemI) : Option MemI :=
  (rg (z.1 4 x0 9)).bind fun _ =>
  if (6 : Int) ≤ (z.1 4 x0 9) then
    some z
  else
    (aiz 6 (z.1 4 x0 9)).bind fun j1 =>
    stN (pN z 6 x0 j1 x1) fun z2 =>
    stN (pN z2 4 x0 9 ((z2.1 4 x0 9) + (1 : Int))) fun z3 =>
    some z3
def di_P_takeFrom (x0 : Nat) (x1 : Int) (z : MemI) : Option (Int × MemI) :=
  (aiz 8 x1).bind fun j1 =>
  stN (pN z 4 x0 8 ((z.1 4 x0 8) - (1 : Int))) fun z2 =>
  (acz 8 (x1 + (1 : Int)) x1 ((z2.1 4 x0 8) - x1)).bind fun _ =>
  stN (cN z2 5 x0 (x1 + (1 : Int)) x1 ((z2.1 4 x0 8) - x1)) fun z4 =>
  some ((z.1 5 x0 j1), z4)
def di_X_choose_2 (k62 : Nat → Int → Int → Nat → MemI → Option MemI) (k152 : MemI → Option MemI) : Nat → Nat → Int → MemI → Option MemI
  | 0, _, _, _ => none
  | n + 1, x1, x2, z =>
    (rg x2).bind fun _ =>
    if (54 : Int) ≤ x2 then
      k152 z
    else
      (rg (z.1 4 x1 8)).bind fun _ =>
      if (z.1 4 x1 8) ≤ (0 : Int) then
        k152 z
      else
        (aiz 6 (0 : Int)).bind fun j1 =>
        (di_P_serveFirst x1 z).bind fun z2 =>
        (di_X_firstPlaceOf x1 (z.1 6 x1 j1) z2).bind fun r3 =>
        (aiz 8 r3.1).bind fun j4 =>
        (aiz 64 (r3.2.1 5 x1 j4)).bind fun j5 =>
        (aiz 6 (z.1 6 x1 j1)).bind fun j6 =>
        (rg (r3.2.1 7 x1 j6)).bind fun _ =>
        (rg (r3.2.1 11 j5 4)).bind fun _ =>
        if (r3.2.1 7 x1 j6) < (r3.2.1 11 j5 4) then
          (di_P_dropFirst x1 r3.2).bind fun z7 =>
          (di_P_append x1 (z.1 6 x1 j1) z7).bind fun z8 =>
          di_X_choose_2 k62 k152 n x1 (x2 + (1 : Int)) z8
        else
          k62 x1 (z.1 6 x1 j1) r3.1 j5 r3.2
def di_X_choose (x1 : Nat) (z : MemI) : Option MemI :=
  di_X_choose_2
    (fun x1 x3 x4 x5 z9 =>
      (aiz 6 x3).bind fun j10 =>
      (aiz 6 x3).bind fun j11 =>
      stN (pN z9 7 x1 j11 ((z9.1 7 x1 j10) - (z9.1 11 x5 4))) fun z12 =>
      (di_P_takeFrom x1 x4 z12).bind fun r13 =>
      stN (pN r13.2 4 x1 7 r13.1) fun z14 =>
      (di_A_set ((6 : Int) + (z14.1 4 x1 7)) (2 : Int) ((z14.1 0 0 8) + ((z14.1 11 x5 4) * (z14.1 4 x1 3))) z14).bind fun z15 =>
      (di_X_queuedOf x1 x3 z15).bind fun r16 =>
      (rg r16.1).bind fun _ =>
      if r16.1 = (0 : Int) then
        (di_P_dropFirst x1 r16.2).bind fun z17 =>
        (aiz 6 x3).bind fun j18 =>
        stN (pN z17 7 x1 j18 (0 : Int)) fun z19 =>
        some z19
      else
        some r16.2)
    (fun z20 =>
      some z20)
    FU x1 (0 : Int) z
def di_X_put (x1 : Int) (x2 : Int) (z : MemI) : Option MemI :=
  (rg x1).bind fun _ =>
  if x1 = (-1 : Int) then
    some z
  else
    (aiz 64 x1).bind fun j1 =>
    (di_X_way x2 (z.1 11 j1 5) z).bind fun r2 =>
    (rg r2.1).bind fun _ =>
    if r2.1 = (-1 : Int) then
      (biz (0 : Int)).bind fun _ =>
      stN (pN r2.2 11 j1 0 (0 : Int)) fun z4 =>
      (aiz 6 (z4.1 11 j1 2)).bind fun j5 =>
      stN (pN z4 9 j5 12 ((z4.1 9 j5 12) + (1 : Int))) fun z6 =>
      some z6
    else
      (aiz 24 r2.1).bind fun j7 =>
      (aiz 24 r2.1).bind fun j8 =>
      (rg (r2.2.1 4 j7 8)).bind fun _ =>
      (rg (r2.2.1 4 j8 6)).bind fun _ =>
      if (r2.2.1 4 j7 8) < (r2.2.1 4 j8 6) then
        (aiz 24 r2.1).bind fun j9 =>
        stN (pN r2.2 11 j1 6 r2.1) fun z10 =>
        (di_X_queuedOf j9 (z10.1 11 j1 2) z10).bind fun r11 =>
        (rg r11.1).bind fun _ =>
        if r11.1 = (0 : Int) then
          (di_P_append j9 (r11.2.1 11 j1 2) r11.2).bind fun z16 =>
          (aiz 8 (z16.1 4 j9 8)).bind fun j17 =>
          stN (pN z16 5 j9 j17 x1) fun z18 =>
          stN (pN z18 4 j9 8 ((z18.1 4 j9 8) + (1 : Int))) fun z19 =>
          (rg (z19.1 4 j9 7)).bind fun _ =>
          if (z19.1 4 j9 7) = (-1 : Int) then
            (di_X_choose j9 z19).bind fun z20 =>
            some z20
          else
            some z19
        else
          (aiz 8 (r11.2.1 4 j9 8)).bind fun j12 =>
          stN (pN r11.2 5 j9 j12 x1) fun z13 =>
          stN (pN z13 4 j9 8 ((z13.1 4 j9 8) + (1 : Int))) fun z14 =>
          (rg (z14.1 4 j9 7)).bind fun _ =>
          if (z14.1 4 j9 7) = (-1 : Int) then
            (di_X_choose j9 z14).bind fun z15 =>
            some z15
          else
            some z14
      else
        (biz (0 : Int)).bind fun _ =>
        stN (pN r2.2 11 j1 0 (0 : Int)) fun z22 =>
        (aiz 6 (z22.1 11 j1 2)).bind fun j23 =>
        stN (pN z22 9 j23 12 ((z22.1 9 j23 12) + (1 : Int))) fun z24 =>
        some z24
def di_X_setTimer (x1 : Int) (z : MemI) : Option MemI :=
  (aiz 6 x1).bind fun j1 =>
  (di_A_set x1 (4 : Int) ((z.1 0 0 8) + (z.1 9 j1 5)) z).bind fun z2 =>
  some z2
def di_X_fill_30 (k79 : MemI → Option MemI) : Nat → Int → Nat → Int → Int → MemI → Option MemI
  | 0, _, _, _, _, _ => none
  | n + 1, x1, x2, x3, x4, z =>
    (rg x3).bind fun _ =>
    (rg x4).bind fun _ =>
    if x3 ≤ x4 then
      k79 z
    else
      (di_X_hasTimer x1 z).bind fun r3 =>
      (rg r3.1).bind fun _ =>
      if r3.1 = (0 : Int) then
        (di_X_setTimer x1 r3.2).bind fun z7 =>
        (di_X_make x1 x4 (0 : Int) z7).bind fun r8 =>
        (di_X_put r8.1 (r8.2.1 9 x2 0) r8.2).bind fun z9 =>
        stN (pN z9 9 x2 8 (x4 + (1 : Int))) fun z10 =>
        di_X_fill_30 k79 n x1 x2 x3 (x4 + (1 : Int)) z10
      else
        (di_X_make x1 x4 (0 : Int) r3.2).bind fun r4 =>
        (di_X_put r4.1 (r4.2.1 9 x2 0) r4.2).bind fun z5 =>
        stN (pN z5 9 x2 8 (x4 + (1 : Int))) fun z6 =>
        di_X_fill_30 k79 n x1 x2 x3 (x4 + (1 : Int)) z6
def di_X_fill (x1 : Int) (z : MemI) : Option MemI :=
  (aiz 6 x1).bind fun j1 =>
  (di_M_min ((z.1 9 j1 7) + (z.1 9 j1 4)) (z.1 9 j1 2)).bind fun v2 =>
  di_X_fill_30
    (fun z11 =>
      some z11)
    FU x1 j1 v2 (z.1 9 j1 8) z
def di_X_start (x1 : Int) (z : MemI) : Option MemI :=
  (aiz 6 x1).bind fun j1 =>
  (di_X_remember (1 : Int) x1 (z.1 9 j1 8) z).bind fun z2 =>
  (di_X_fill x1 z2).bind fun z3 =>
  some z3
def di_K_label (x0 : Nat) (z : MemI) : Option (Int × MemI) :=
  (rg (z.1 11 x0 1)).bind fun _ =>
  if (z.1 11 x0 1) = (0 : Int) then
    some ((z.1 11 x0 3), z)
  else
    some (((z.1 11 x0 3) + (128 : Int)), z)
def di_X_leave (x1 : Int) (z : MemI) : Option MemI :=
  (aiz 64 x1).bind fun j1 =>
  (aiz 24 (z.1 11 j1 6)).bind fun j2 =>
  (di_K_label j1 z).bind fun r3 =>
  (di_X_remember (2 : Int) (z.1 11 j1 6) r3.1 r3.2).bind fun z4 =>
  stN (pN z4 4 j2 7 (-1 : Int)) fun z5 =>
  (di_A_set ((6 : Int) + x1) (3 : Int) ((z5.1 0 0 8) + (z5.1 4 j2 4)) z5).bind fun z6 =>
  (rg (z6.1 4 j2 8)).bind fun _ =>
  if (z6.1 4 j2 8) ≤ (0 : Int) then
    some z6
  else
    (di_X_choose j2 z6).bind fun z7 =>
    some z7
def di_M_max (x0 : Int) (x1 : Int) : Option Int :=
  (rg x0).bind fun _ =>
  (rg x1).bind fun _ =>
  if x0 < x1 then
    some x1
  else
    some x0
def di_X_moveBase (x1 : Int) (x2 : Int) (z : MemI) : Option MemI :=
  (aiz 6 x1).bind fun j1 =>
  stN (pN z 9 j1 7 x2) fun z2 =>
  (di_M_max (z2.1 9 j1 8) x2).bind fun v3 =>
  stN (pN z2 9 j1 8 v3) fun z4 =>
  (di_A_unset x1 z4).bind fun z5 =>
  (rg (z5.1 9 j1 8)).bind fun _ =>
  (rg (z5.1 9 j1 7)).bind fun _ =>
  if (z5.1 9 j1 8) ≤ (z5.1 9 j1 7) then
    some z5
  else
    (di_X_setTimer x1 z5).bind fun z6 =>
    some z6
def di_X_takeData (x1 : Int) (x2 : Int) (z : MemI) : Option MemI :=
  (aiz 6 x1).bind fun j1 =>
  (rg x2).bind fun _ =>
  (rg (z.1 9 j1 9)).bind fun _ =>
  if x2 = (z.1 9 j1 9) then
    stN (pN z 9 j1 9 ((z.1 9 j1 9) + (1 : Int))) fun z4 =>
    (di_X_make x1 (z4.1 9 j1 9) (1 : Int) z4).bind fun r5 =>
    (di_X_put r5.1 (r5.2.1 9 j1 1) r5.2).bind fun z6 =>
    some z6
  else
    (di_X_make x1 (z.1 9 j1 9) (1 : Int) z).bind fun r2 =>
    (di_X_put r2.1 (r2.2.1 9 j1 1) r2.2).bind fun z3 =>
    some z3
def di_X_arrive (x1 : Int) (z : MemI) : Option MemI :=
  (aiz 64 x1).bind fun j1 =>
  (aiz 24 (z.1 11 j1 6)).bind fun j2 =>
  (di_K_label j1 z).bind fun r3 =>
  (di_X_remember (3 : Int) (z.1 4 j2 1) r3.1 r3.2).bind fun z4 =>
  (rg (z.1 4 j2 1)).bind fun _ =>
  (rg (z4.1 11 j1 5)).bind fun _ =>
  if (z.1 4 j2 1) = (z4.1 11 j1 5) then
    (biz (0 : Int)).bind fun _ =>
    stN (pN z4 11 j1 0 (0 : Int)) fun z6 =>
    (aiz 6 (z6.1 11 j1 2)).bind fun j7 =>
    stN (pN z6 9 j7 11 ((z6.1 9 j7 11) + (1 : Int))) fun z8 =>
    (rg (z8.1 11 j1 1)).bind fun _ =>
    if (z8.1 11 j1 1) = (0 : Int) then
      (di_X_takeData (z8.1 11 j1 2) (z8.1 11 j1 3) z8).bind fun z12 =>
      some z12
    else
      (aiz 6 (z8.1 11 j1 2)).bind fun j9 =>
      (rg (z8.1 11 j1 3)).bind fun _ =>
      (rg (z8.1 9 j9 7)).bind fun _ =>
      if (z8.1 11 j1 3) ≤ (z8.1 9 j9 7) then
        some z8
      else
        (di_X_moveBase (z8.1 11 j1 2) (z8.1 11 j1 3) z8).bind fun z10 =>
        (di_X_fill (z10.1 11 j1 2) z10).bind fun z11 =>
        some z11
  else
    (di_X_put x1 (z.1 4 j2 1) z4).bind fun z13 =>
    some z13
def di_X_timeOut (x1 : Int) (z : MemI) : Option MemI :=
  (aiz 6 x1).bind fun j1 =>
  (di_X_remember (4 : Int) x1 (z.1 9 j1 7) z).bind fun z2 =>
  stN (pN z2 9 j1 13 ((z2.1 9 j1 13) + (1 : Int))) fun z3 =>
  stN (pN z3 9 j1 8 (z3.1 9 j1 7)) fun z4 =>
  (di_X_fill x1 z4).bind fun z5 =>
  some z5
def di_X_happen (z : MemI) : Option (Int × MemI) :=
  (di_A_firstSlot z).bind fun r1 =>
  (rg r1.1).bind fun _ =>
  if r1.1 = (-1 : Int) then
    (biz (0 : Int)).bind fun _ =>
    some ((0 : Int), r1.2)
  else
    (aiz 70 r1.1).bind fun j2 =>
    stN (pN r1.2 0 0 8 (r1.2.1 14 0 j2)) fun z3 =>
    (aiz 70 r1.1).bind fun j4 =>
    (di_A_unset r1.1 z3).bind fun z5 =>
    (rg (z3.1 13 0 j4)).bind fun _ =>
    if (z3.1 13 0 j4) = (1 : Int) then
      (di_X_start r1.1 z5).bind fun z6 =>
      (biz (1 : Int)).bind fun _ =>
      some ((1 : Int), z6)
    else
      if (z3.1 13 0 j4) = (2 : Int) then
        (di_X_leave (r1.1 - (6 : Int)) z5).bind fun z8 =>
        (biz (1 : Int)).bind fun _ =>
        some ((1 : Int), z8)
      else
        if (z3.1 13 0 j4) = (3 : Int) then
          (di_X_arrive (r1.1 - (6 : Int)) z5).bind fun z10 =>
          (biz (1 : Int)).bind fun _ =>
          some ((1 : Int), z10)
        else
          (di_X_timeOut r1.1 z5).bind fun z12 =>
          (biz (1 : Int)).bind fun _ =>
          some ((1 : Int), z12)
def di_X_step (z : MemI) : Option (Int × MemI) :=
  (di_X_begin z).bind fun z1 =>
  (di_X_happen z1).bind fun r2 =>
  (biz r2.1).bind fun _ =>
  some (r2.1, r2.2)
def di_X_run_22 (k40 : Int → MemI → Option (Int × MemI)) : Nat → Int → Int → MemI → Option (Int × MemI)
  | 0, _, _, _ => none
  | n + 1, x1, x2, z =>
    (rg x1).bind fun _ =>
    (rg x2).bind fun _ =>
    if x1 ≤ x2 then
      k40 x2 z
    else
      (di_X_happen z).bind fun r2 =>
      (rg r2.1).bind fun _ =>
      if r2.1 = (0 : Int) then
        k40 x2 r2.2
      else
        di_X_run_22 k40 n x1 (x2 + (1 : Int)) r2.2
def di_X_run (x1 : Int) (z : MemI) : Option (Int × MemI) :=
  (di_X_isWithin x1 (0 : Int) (50 : Int)).bind fun v1 =>
  (rg v1).bind fun _ =>
  if v1 = (0 : Int) then
    some ((-1 : Int), z)
  else
    (rg x1).bind fun _ =>
    if x1 ≤ (0 : Int) then
      di_X_run_22
        (fun x2 z3 =>
          some (x2, z3))
        FU x1 (0 : Int) z
    else
      (di_X_begin z).bind fun z4 =>
      di_X_run_22
        (fun x2 z5 =>
          some (x2, z5))
        FU x1 (0 : Int) z4
def di_X_now (z : MemI) : Option (Int × MemI) :=
  some ((z.1 0 0 8), z)
def di_X_trace (x1 : Int) (z : MemI) : Option (Int × MemI) :=
  (di_X_isWithin x1 (0 : Int) (15 : Int)).bind fun v1 =>
  (rg v1).bind fun _ =>
  if v1 = (0 : Int) then
    some ((-1 : Int), z)
  else
    (aiz 16 x1).bind fun j2 =>
    some ((z.2 j2), z)
def di_X_distance (x1 : Int) (x2 : Int) (z : MemI) : Option (Int × MemI) :=
  (di_X_isNode x1).bind fun v1 =>
  (rg v1).bind fun _ =>
  if v1 = (0 : Int) then
    some ((-1 : Int), z)
  else
    (di_X_isNode x2).bind fun v2 =>
    (rg v2).bind fun _ =>
    if v2 = (0 : Int) then
      some ((-1 : Int), z)
    else
      (aiz 8 x1).bind fun j3 =>
      (aiz 8 x2).bind fun j4 =>
      some ((z.1 2 j3 j4), z)
def di_X_waiting (x1 : Int) (x2 : Int) (z : MemI) : Option (Int × MemI) :=
  (di_X_isPort x1 z).bind fun r1 =>
  (rg r1.1).bind fun _ =>
  if r1.1 = (0 : Int) then
    some ((-1 : Int), r1.2)
  else
    (rg x2).bind fun _ =>
    if x2 = (-1 : Int) then
      (aiz 24 x1).bind fun j5 =>
      some ((r1.2.1 4 j5 8), r1.2)
    else
      (di_X_isFlow x2 r1.2).bind fun r2 =>
      (rg r2.1).bind fun _ =>
      if r2.1 = (0 : Int) then
        some ((-1 : Int), r2.2)
      else
        (aiz 24 x1).bind fun j3 =>
        (di_X_queuedOf j3 x2 r2.2).bind fun r4 =>
        some (r4.1, r4.2)
def di_X_deficit (x1 : Int) (x2 : Int) (z : MemI) : Option (Int × MemI) :=
  (di_X_isPort x1 z).bind fun r1 =>
  (rg r1.1).bind fun _ =>
  if r1.1 = (0 : Int) then
    some ((-1 : Int), r1.2)
  else
    (di_X_isFlow x2 r1.2).bind fun r2 =>
    (rg r2.1).bind fun _ =>
    if r2.1 = (0 : Int) then
      some ((-1 : Int), r2.2)
    else
      (aiz 24 x1).bind fun j3 =>
      (aiz 6 x2).bind fun j4 =>
      some ((r2.2.1 7 j3 j4), r2.2)
def di_X_onPort (x1 : Int) (z : MemI) : Option (Int × MemI) :=
  (di_X_isPort x1 z).bind fun r1 =>
  (rg r1.1).bind fun _ =>
  if r1.1 = (0 : Int) then
    some ((-1 : Int), r1.2)
  else
    (aiz 24 x1).bind fun j2 =>
    (rg (r1.2.1 4 j2 7)).bind fun _ =>
    if (r1.2.1 4 j2 7) = (-1 : Int) then
      some ((-1 : Int), r1.2)
    else
      (aiz 24 x1).bind fun j3 =>
      (aiz 64 (r1.2.1 4 j3 7)).bind fun j4 =>
      (di_K_label j4 r1.2).bind fun r5 =>
      some ((((256 : Int) * (r1.2.1 11 j4 2)) + r5.1), r5.2)
def di_X_timer (x1 : Int) (z : MemI) : Option (Int × MemI) :=
  (di_X_isFlow x1 z).bind fun r1 =>
  (rg r1.1).bind fun _ =>
  if r1.1 = (0 : Int) then
    some ((-1 : Int), r1.2)
  else
    (di_X_hasTimer x1 r1.2).bind fun r2 =>
    (rg r2.1).bind fun _ =>
    if r2.1 = (0 : Int) then
      some ((-1 : Int), r2.2)
    else
      (aiz 70 x1).bind fun j3 =>
      some ((r2.2.1 14 0 j3), r2.2)
def di_X_count (x1 : Int) (x2 : Int) (z : MemI) : Option (Int × MemI) :=
  (di_X_isFlow x1 z).bind fun r1 =>
  (rg r1.1).bind fun _ =>
  if r1.1 = (0 : Int) then
    some ((-1 : Int), r1.2)
  else
    (rg x2).bind fun _ =>
    if x2 = (0 : Int) then
      (aiz 6 x1).bind fun j2 =>
      some ((r1.2.1 9 j2 7), r1.2)
    else
      if x2 = (1 : Int) then
        (aiz 6 x1).bind fun j3 =>
        some ((r1.2.1 9 j3 8), r1.2)
      else
        if x2 = (2 : Int) then
          (aiz 6 x1).bind fun j4 =>
          some ((r1.2.1 9 j4 9), r1.2)
        else
          if x2 = (3 : Int) then
            (aiz 6 x1).bind fun j5 =>
            some ((r1.2.1 9 j5 10), r1.2)
          else
            if x2 = (4 : Int) then
              (aiz 6 x1).bind fun j6 =>
              some ((r1.2.1 9 j6 11), r1.2)
            else
              if x2 = (5 : Int) then
                (aiz 6 x1).bind fun j7 =>
                some ((r1.2.1 9 j7 12), r1.2)
              else
                if x2 = (6 : Int) then
                  (aiz 6 x1).bind fun j8 =>
                  some ((r1.2.1 9 j8 13), r1.2)
                else
                  some ((-1 : Int), r1.2)
def di_Y_lesser (x0 : Int) (x1 : Int) : Option Int :=
  (rg x1).bind fun _ =>
  (rg x0).bind fun _ =>
  if x1 ≤ x0 then
    some x1
  else
    some x0
def di_Y_measure_10 (k44 : Int → MemI → Option MemI) : Nat → Int → Int → MemI → Option MemI
  | 0, _, _, _ => none
  | n + 1, x1, x2, z =>
    (rg x2).bind fun _ =>
    if (8 : Int) ≤ x2 then
      k44 x1 z
    else
      (rg x1).bind fun _ =>
      if x1 = x2 then
        (aiz 64 (((8 : Int) * x1) + x2)).bind fun j3 =>
        stN (pN z 8 0 j3 (0 : Int)) fun z4 =>
        di_Y_measure_10 k44 n x1 (x2 + (1 : Int)) z4
      else
        (aiz 64 (((8 : Int) * x1) + x2)).bind fun j1 =>
        stN (pN z 8 0 j1 (1000000 : Int)) fun z2 =>
        di_Y_measure_10 k44 n x1 (x2 + (1 : Int)) z2
def di_Y_measure_2 (k50 : MemI → Option MemI) : Nat → Int → MemI → Option MemI
  | 0, _, _ => none
  | n + 1, x1, z =>
    (rg x1).bind fun _ =>
    if (8 : Int) ≤ x1 then
      k50 z
    else
      di_Y_measure_10
        (fun x1 z5 =>
          di_Y_measure_2 k50 n (x1 + (1 : Int)) z5)
        FU x1 (0 : Int) z
def di_Y_measure_52 (k142 : MemI → Option MemI) : Nat → Int → MemI → Option MemI
  | 0, _, _ => none
  | n + 1, x1, z =>
    (rg (z.1 0 0 0)).bind fun _ =>
    (rg x1).bind fun _ =>
    if (z.1 0 0 0) ≤ x1 then
      k142 z
    else
      (aiz 12 x1).bind fun j7 =>
      (aiz 12 x1).bind fun j8 =>
      stW (((8 : Int) * (z.1 1 0 j7)) + (z.1 2 0 j8)) fun v9 =>
      (aiz 12 x1).bind fun j10 =>
      (aiz 12 x1).bind fun j11 =>
      stW (((8 : Int) * (z.1 2 0 j10)) + (z.1 1 0 j11)) fun v12 =>
      (aiz 64 v9).bind fun j13 =>
      (aiz 12 x1).bind fun j14 =>
      (di_Y_lesser (z.1 8 0 j13) (z.1 3 0 j14)).bind fun v15 =>
      (aiz 64 v9).bind fun j16 =>
      stN (pN z 8 0 j16 v15) fun z17 =>
      (aiz 64 v12).bind fun j18 =>
      (aiz 12 x1).bind fun j19 =>
      (di_Y_lesser (z17.1 8 0 j18) (z17.1 3 0 j19)).bind fun v20 =>
      (aiz 64 v12).bind fun j21 =>
      stN (pN z17 8 0 j21 v20) fun z22 =>
      di_Y_measure_52 k142 n (x1 + (1 : Int)) z22
def di_Y_measure_160 (k220 : Int → Int → MemI → Option MemI) : Nat → Int → Int → Int → MemI → Option MemI
  | 0, _, _, _, _ => none
  | n + 1, x1, x2, x3, z =>
    (rg x3).bind fun _ =>
    if (8 : Int) ≤ x3 then
      k220 x1 x2 z
    else
      (aiz 64 (((8 : Int) * x2) + x3)).bind fun j24 =>
      (aiz 64 (((8 : Int) * x2) + x1)).bind fun j25 =>
      (aiz 64 (((8 : Int) * x1) + x3)).bind fun j26 =>
      (di_Y_lesser (z.1 8 0 j24) ((z.1 8 0 j25) + (z.1 8 0 j26))).bind fun v27 =>
      (aiz 64 (((8 : Int) * x2) + x3)).bind fun j28 =>
      stN (pN z 8 0 j28 v27) fun z29 =>
      di_Y_measure_160 k220 n x1 x2 (x3 + (1 : Int)) z29
def di_Y_measure_152 (k226 : Int → MemI → Option MemI) : Nat → Int → Int → MemI → Option MemI
  | 0, _, _, _ => none
  | n + 1, x1, x2, z =>
    (rg x2).bind fun _ =>
    if (8 : Int) ≤ x2 then
      k226 x1 z
    else
      di_Y_measure_160
        (fun x1 x2 z30 =>
          di_Y_measure_152 k226 n x1 (x2 + (1 : Int)) z30)
        FU x1 x2 (0 : Int) z
def di_Y_measure_144 (k232 : MemI → Option MemI) : Nat → Int → MemI → Option MemI
  | 0, _, _ => none
  | n + 1, x1, z =>
    (rg x1).bind fun _ =>
    if (8 : Int) ≤ x1 then
      k232 z
    else
      di_Y_measure_152
        (fun x1 z31 =>
          di_Y_measure_144 k232 n (x1 + (1 : Int)) z31)
        FU x1 (0 : Int) z
def di_Y_measure (z : MemI) : Option MemI :=
  di_Y_measure_2
    (fun z6 =>
      di_Y_measure_52
        (fun z23 =>
          di_Y_measure_144
            (fun z32 =>
              some z32)
            FU (0 : Int) z23)
        FU (0 : Int) z6)
    FU (0 : Int) z
def di_Y_clear_32 (k51 : MemI → Option MemI) : Nat → Int → MemI → Option MemI
  | 0, _, _ => none
  | n + 1, x1, z =>
    (rg x1).bind fun _ =>
    if (64 : Int) ≤ x1 then
      k51 z
    else
      (aiz 64 x1).bind fun j8 =>
      stN (pN z 24 0 j8 (0 : Int)) fun z9 =>
      di_Y_clear_32 k51 n (x1 + (1 : Int)) z9
def di_Y_clear (z : MemI) : Option MemI :=
  stN (pN z 0 0 0 (0 : Int)) fun z1 =>
  stN (pN z1 0 0 9 (0 : Int)) fun z2 =>
  (biz (0 : Int)).bind fun _ =>
  stN (pN z2 0 0 35 (0 : Int)) fun z4 =>
  stN (pN z4 0 0 36 (0 : Int)) fun z5 =>
  stN (pN z5 0 0 37 (0 : Int)) fun z6 =>
  stN (pN z6 0 0 38 (0 : Int)) fun z7 =>
  di_Y_clear_32
    (fun z10 =>
      (di_Y_measure z10).bind fun z11 =>
      some z11)
    FU (0 : Int) z7
def di_Y_node (x0 : Int) : Option Int :=
  (rg x0).bind fun _ =>
  if x0 < (0 : Int) then
    (biz (0 : Int)).bind fun _ =>
    some (0 : Int)
  else
    if (7 : Int) < x0 then
      (biz (0 : Int)).bind fun _ =>
      some (0 : Int)
    else
      (biz (1 : Int)).bind fun _ =>
      some (1 : Int)
def di_Y_within (x0 : Int) (x1 : Int) (x2 : Int) : Option Int :=
  (rg x0).bind fun _ =>
  (rg x1).bind fun _ =>
  if x0 < x1 then
    (biz (0 : Int)).bind fun _ =>
    some (0 : Int)
  else
    (rg x2).bind fun _ =>
    if x2 < x0 then
      (biz (0 : Int)).bind fun _ =>
      some (0 : Int)
    else
      (biz (1 : Int)).bind fun _ =>
      some (1 : Int)
def di_Y_link_131 (k167 : MemI → Option (Int × MemI)) : Nat → Int → MemI → Option (Int × MemI)
  | 0, _, _ => none
  | n + 1, x6, z =>
    (rg (((2 : Int) * (z.1 0 0 0)) + (1 : Int))).bind fun _ =>
    (rg x6).bind fun _ =>
    if (((2 : Int) * (z.1 0 0 0)) + (1 : Int)) < x6 then
      k167 z
    else
      (aiz 24 x6).bind fun j17 =>
      stN (pN z 6 0 j17 (8 : Int)) fun z18 =>
      (aiz 24 x6).bind fun j19 =>
      stN (pN z18 7 0 j19 (4 : Int)) fun z20 =>
      di_Y_link_131 k167 n (x6 + (1 : Int)) z20
def di_Y_link (x1 : Int) (x2 : Int) (x3 : Int) (x4 : Int) (x5 : Int) (z : MemI) : Option (Int × MemI) :=
  (rg (z.1 0 0 35)).bind fun _ =>
  if (z.1 0 0 35) = (0 : Int) then
    (rg (z.1 0 0 0)).bind fun _ =>
    if (z.1 0 0 0) = (12 : Int) then
      some ((-1 : Int), z)
    else
      (di_Y_node x1).bind fun v1 =>
      (rg v1).bind fun _ =>
      if v1 = (0 : Int) then
        some ((-1 : Int), z)
      else
        (di_Y_node x2).bind fun v2 =>
        (rg v2).bind fun _ =>
        if v2 = (0 : Int) then
          some ((-1 : Int), z)
        else
          (rg x1).bind fun _ =>
          (rg x2).bind fun _ =>
          if x1 = x2 then
            some ((-1 : Int), z)
          else
            (di_Y_within x3 (1 : Int) (100 : Int)).bind fun v3 =>
            (rg v3).bind fun _ =>
            if v3 = (0 : Int) then
              some ((-1 : Int), z)
            else
              (di_Y_within x4 (1 : Int) (16 : Int)).bind fun v4 =>
              (rg v4).bind fun _ =>
              if v4 = (0 : Int) then
                some ((-1 : Int), z)
              else
                (di_Y_within x5 (0 : Int) (40 : Int)).bind fun v5 =>
                (rg v5).bind fun _ =>
                if v5 = (0 : Int) then
                  some ((-1 : Int), z)
                else
                  (aiz 12 (z.1 0 0 0)).bind fun j6 =>
                  stN (pN z 1 0 j6 x1) fun z7 =>
                  (aiz 12 (z7.1 0 0 0)).bind fun j8 =>
                  stN (pN z7 2 0 j8 x2) fun z9 =>
                  (aiz 12 (z9.1 0 0 0)).bind fun j10 =>
                  stN (pN z9 3 0 j10 x3) fun z11 =>
                  (aiz 12 (z11.1 0 0 0)).bind fun j12 =>
                  stN (pN z11 4 0 j12 x4) fun z13 =>
                  (aiz 12 (z13.1 0 0 0)).bind fun j14 =>
                  stN (pN z13 5 0 j14 x5) fun z15 =>
                  stW ((2 : Int) * (z15.1 0 0 0)) fun v16 =>
                  di_Y_link_131
                    (fun z21 =>
                      stN (pN z21 0 0 0 ((z21.1 0 0 0) + (1 : Int))) fun z22 =>
                      (di_Y_measure z22).bind fun z23 =>
                      some (((z23.1 0 0 0) - (1 : Int)), z23))
                    FU v16 z15
  else
    some ((-1 : Int), z)
def di_Y_isPort (x1 : Int) (z : MemI) : Option (Int × MemI) :=
  (rg x1).bind fun _ =>
  if x1 < (0 : Int) then
    (biz (0 : Int)).bind fun _ =>
    some ((0 : Int), z)
  else
    (rg ((2 : Int) * (z.1 0 0 0))).bind fun _ =>
    if ((2 : Int) * (z.1 0 0 0)) ≤ x1 then
      (biz (0 : Int)).bind fun _ =>
      some ((0 : Int), z)
    else
      (biz (1 : Int)).bind fun _ =>
      some ((1 : Int), z)
def di_Y_isFlow (x1 : Int) (z : MemI) : Option (Int × MemI) :=
  (rg x1).bind fun _ =>
  if x1 < (0 : Int) then
    (biz (0 : Int)).bind fun _ =>
    some ((0 : Int), z)
  else
    (rg (z.1 0 0 9)).bind fun _ =>
    if (z.1 0 0 9) ≤ x1 then
      (biz (0 : Int)).bind fun _ =>
      some ((0 : Int), z)
    else
      (biz (1 : Int)).bind fun _ =>
      some ((1 : Int), z)
def di_Y_shape (x1 : Int) (x2 : Int) (x3 : Int) (z : MemI) : Option (Int × MemI) :=
  (rg (z.1 0 0 35)).bind fun _ =>
  if (z.1 0 0 35) = (0 : Int) then
    (di_Y_isPort x1 z).bind fun r2 =>
    (rg r2.1).bind fun _ =>
    if r2.1 = (0 : Int) then
      (biz (0 : Int)).bind fun _ =>
      some ((0 : Int), r2.2)
    else
      (di_Y_within x2 (1 : Int) (16 : Int)).bind fun v4 =>
      (rg v4).bind fun _ =>
      if v4 = (0 : Int) then
        (biz (0 : Int)).bind fun _ =>
        some ((0 : Int), r2.2)
      else
        (di_Y_within x3 (1 : Int) (8 : Int)).bind fun v6 =>
        (rg v6).bind fun _ =>
        if v6 = (0 : Int) then
          (biz (0 : Int)).bind fun _ =>
          some ((0 : Int), r2.2)
        else
          (aiz 24 x1).bind fun j7 =>
          stN (pN r2.2 6 0 j7 x2) fun z8 =>
          (aiz 24 x1).bind fun j9 =>
          stN (pN z8 7 0 j9 x3) fun z10 =>
          (biz (1 : Int)).bind fun _ =>
          some ((1 : Int), z10)
  else
    (biz (0 : Int)).bind fun _ =>
    some ((0 : Int), z)
def di_Y_flow_183 (k210 : MemI → Option (Int × MemI)) : Nat → Int → MemI → Option (Int × MemI)
  | 0, _, _ => none
  | n + 1, x5, z =>
    (rg x5).bind fun _ =>
    if (4 : Int) ≤ x5 then
      k210 z
    else
      (aiz 24 (((4 : Int) * (z.1 0 0 9)) + x5)).bind fun j29 =>
      stN (pN z 23 0 j29 (0 : Int)) fun z30 =>
      di_Y_flow_183 k210 n (x5 + (1 : Int)) z30
def di_Y_flow (x1 : Int) (x2 : Int) (x3 : Int) (x4 : Int) (z : MemI) : Option (Int × MemI) :=
  (rg (z.1 0 0 35)).bind fun _ =>
  if (z.1 0 0 35) = (0 : Int) then
    (rg (z.1 0 0 9)).bind fun _ =>
    if (z.1 0 0 9) = (6 : Int) then
      some ((-1 : Int), z)
    else
      (di_Y_node x1).bind fun v1 =>
      (rg v1).bind fun _ =>
      if v1 = (0 : Int) then
        some ((-1 : Int), z)
      else
        (di_Y_node x2).bind fun v2 =>
        (rg v2).bind fun _ =>
        if v2 = (0 : Int) then
          some ((-1 : Int), z)
        else
          (rg x1).bind fun _ =>
          (rg x2).bind fun _ =>
          if x1 = x2 then
            some ((-1 : Int), z)
          else
            (di_Y_within x3 (1 : Int) (100 : Int)).bind fun v3 =>
            (rg v3).bind fun _ =>
            if v3 = (0 : Int) then
              some ((-1 : Int), z)
            else
              (di_Y_within x4 (1 : Int) (8 : Int)).bind fun v4 =>
              (rg v4).bind fun _ =>
              if v4 = (0 : Int) then
                some ((-1 : Int), z)
              else
                (aiz 6 (z.1 0 0 9)).bind fun j5 =>
                stN (pN z 9 0 j5 x1) fun z6 =>
                (aiz 6 (z6.1 0 0 9)).bind fun j7 =>
                stN (pN z6 10 0 j7 x2) fun z8 =>
                (aiz 6 (z8.1 0 0 9)).bind fun j9 =>
                stN (pN z8 11 0 j9 x3) fun z10 =>
                (aiz 6 (z10.1 0 0 9)).bind fun j11 =>
                stN (pN z10 12 0 j11 x4) fun z12 =>
                (aiz 6 (z12.1 0 0 9)).bind fun j13 =>
                stN (pN z12 13 0 j13 (4 : Int)) fun z14 =>
                (aiz 6 (z14.1 0 0 9)).bind fun j15 =>
                stN (pN z14 14 0 j15 (100 : Int)) fun z16 =>
                (aiz 6 (z16.1 0 0 9)).bind fun j17 =>
                stN (pN z16 15 0 j17 (0 : Int)) fun z18 =>
                (aiz 6 (z18.1 0 0 9)).bind fun j19 =>
                stN (pN z18 16 0 j19 (0 : Int)) fun z20 =>
                (aiz 6 (z20.1 0 0 9)).bind fun j21 =>
                stN (pN z20 17 0 j21 (0 : Int)) fun z22 =>
                (aiz 6 (z22.1 0 0 9)).bind fun j23 =>
                stN (pN z22 18 0 j23 (0 : Int)) fun z24 =>
                (aiz 6 (z24.1 0 0 9)).bind fun j25 =>
                stN (pN z24 19 0 j25 (-1 : Int)) fun z26 =>
                (aiz 6 (z26.1 0 0 9)).bind fun j27 =>
                stN (pN z26 21 0 j27 (-1 : Int)) fun z28 =>
                di_Y_flow_183
                  (fun z31 =>
                    stN (pN z31 0 0 9 ((z31.1 0 0 9) + (1 : Int))) fun z32 =>
                    some (((z32.1 0 0 9) - (1 : Int)), z32))
                  FU (0 : Int) z28
  else
    some ((-1 : Int), z)
def di_Y_tune (x1 : Int) (x2 : Int) (x3 : Int) (x4 : Int) (z : MemI) : Option (Int × MemI) :=
  (rg (z.1 0 0 35)).bind fun _ =>
  if (z.1 0 0 35) = (0 : Int) then
    (di_Y_isFlow x1 z).bind fun r2 =>
    (rg r2.1).bind fun _ =>
    if r2.1 = (0 : Int) then
      (biz (0 : Int)).bind fun _ =>
      some ((0 : Int), r2.2)
    else
      (di_Y_within x2 (1 : Int) (8 : Int)).bind fun v4 =>
      (rg v4).bind fun _ =>
      if v4 = (0 : Int) then
        (biz (0 : Int)).bind fun _ =>
        some ((0 : Int), r2.2)
      else
        (di_Y_within x3 (1 : Int) (200 : Int)).bind fun v6 =>
        (rg v6).bind fun _ =>
        if v6 = (0 : Int) then
          (biz (0 : Int)).bind fun _ =>
          some ((0 : Int), r2.2)
        else
          (di_Y_within x4 (0 : Int) (1000 : Int)).bind fun v8 =>
          (rg v8).bind fun _ =>
          if v8 = (0 : Int) then
            (biz (0 : Int)).bind fun _ =>
            some ((0 : Int), r2.2)
          else
            (aiz 6 x1).bind fun j9 =>
            stN (pN r2.2 13 0 j9 x2) fun z10 =>
            (aiz 6 x1).bind fun j11 =>
            stN (pN z10 14 0 j11 x3) fun z12 =>
            (aiz 6 x1).bind fun j13 =>
            stN (pN z12 15 0 j13 x4) fun z14 =>
            (biz (1 : Int)).bind fun _ =>
            some ((1 : Int), z14)
  else
    (biz (0 : Int)).bind fun _ =>
    some ((0 : Int), z)
def di_Y_distance (x1 : Int) (x2 : Int) (z : MemI) : Option (Int × MemI) :=
  (di_Y_node x1).bind fun v1 =>
  (rg v1).bind fun _ =>
  if v1 = (0 : Int) then
    some ((-1 : Int), z)
  else
    (di_Y_node x2).bind fun v2 =>
    (rg v2).bind fun _ =>
    if v2 = (0 : Int) then
      some ((-1 : Int), z)
    else
      (aiz 64 (((8 : Int) * x1) + x2)).bind fun j3 =>
      (rg (z.1 8 0 j3)).bind fun _ =>
      if (z.1 8 0 j3) < (1000000 : Int) then
        (aiz 64 (((8 : Int) * x1) + x2)).bind fun j4 =>
        some ((z.1 8 0 j4), z)
      else
        some ((-1 : Int), z)
def di_Y_at (x1 : Int) (z : MemI) : Option (Int × MemI) :=
  (nn x1).bind fun _ =>
  (rg (x1 % (2 : Int))).bind fun _ =>
  if (x1 % (2 : Int)) = (0 : Int) then
    (aiz 12 (x1 / (2 : Int))).bind fun j2 =>
    some ((z.1 1 0 j2), z)
  else
    (aiz 12 (x1 / (2 : Int))).bind fun j1 =>
    some ((z.1 2 0 j1), z)
def di_Y_leads (x1 : Int) (z : MemI) : Option (Int × MemI) :=
  (nn x1).bind fun _ =>
  (rg (x1 % (2 : Int))).bind fun _ =>
  if (x1 % (2 : Int)) = (0 : Int) then
    (aiz 12 (x1 / (2 : Int))).bind fun j2 =>
    some ((z.1 2 0 j2), z)
  else
    (aiz 12 (x1 / (2 : Int))).bind fun j1 =>
    some ((z.1 1 0 j1), z)
def di_Y_way_19 (k76 : Int → MemI → Option (Int × MemI)) (k84 : MemI → Option (Int × MemI)) : Nat → Int → Int → Int → MemI → Option (Int × MemI)
  | 0, _, _, _, _ => none
  | n + 1, x1, x2, x3, z =>
    (rg ((2 : Int) * (z.1 0 0 0))).bind fun _ =>
    (rg x3).bind fun _ =>
    if ((2 : Int) * (z.1 0 0 0)) ≤ x3 then
      k84 z
    else
      (di_Y_at x3 z).bind fun r2 =>
      (rg r2.1).bind fun _ =>
      (rg x1).bind fun _ =>
      if r2.1 = x1 then
        (nn x3).bind fun _ =>
        (aiz 12 (x3 / (2 : Int))).bind fun j3 =>
        (di_Y_leads x3 r2.2).bind fun r4 =>
        (aiz 64 (((8 : Int) * r4.1) + x2)).bind fun j5 =>
        (aiz 64 (((8 : Int) * x1) + x2)).bind fun j6 =>
        (rg ((r2.2.1 3 0 j3) + (r4.2.1 8 0 j5))).bind fun _ =>
        (rg (r4.2.1 8 0 j6)).bind fun _ =>
        if ((r2.2.1 3 0 j3) + (r4.2.1 8 0 j5)) = (r4.2.1 8 0 j6) then
          k76 x3 r4.2
        else
          di_Y_way_19 k76 k84 n x1 x2 (x3 + (1 : Int)) r4.2
      else
        di_Y_way_19 k76 k84 n x1 x2 (x3 + (1 : Int)) r2.2
def di_Y_way (x1 : Int) (x2 : Int) (z : MemI) : Option (Int × MemI) :=
  (rg x1).bind fun _ =>
  (rg x2).bind fun _ =>
  if x1 = x2 then
    some ((-1 : Int), z)
  else
    (di_Y_distance x1 x2 z).bind fun r1 =>
    (rg r1.1).bind fun _ =>
    if r1.1 = (-1 : Int) then
      some ((-1 : Int), r1.2)
    else
      di_Y_way_19
        (fun x3 z7 =>
          some (x3, z7))
        (fun z8 =>
          some ((-1 : Int), z8))
        FU x1 x2 (0 : Int) r1.2
def di_Y_sizeOf (x1 : Int) (z : MemI) : Option (Int × MemI) :=
  (aiz 64 x1).bind fun j1 =>
  (rg (z.1 27 0 j1)).bind fun _ =>
  if (z.1 27 0 j1) = (0 : Int) then
    (aiz 64 x1).bind fun j2 =>
    (aiz 6 (z.1 25 0 j2)).bind fun j3 =>
    some ((z.1 12 0 j3), z)
  else
    some ((1 : Int), z)
def di_Y_endOf (x1 : Int) (z : MemI) : Option (Int × MemI) :=
  (aiz 64 x1).bind fun j1 =>
  (rg (z.1 27 0 j1)).bind fun _ =>
  if (z.1 27 0 j1) = (0 : Int) then
    (aiz 64 x1).bind fun j2 =>
    (aiz 6 (z.1 25 0 j2)).bind fun j3 =>
    some ((z.1 10 0 j3), z)
  else
    (aiz 64 x1).bind fun j4 =>
    (aiz 6 (z.1 25 0 j4)).bind fun j5 =>
    some ((z.1 9 0 j5), z)
def di_Y_queued_5 (k64 : Int → MemI → Option (Int × MemI)) : Nat → Int → Int → Int → Int → MemI → Option (Int × MemI)
  | 0, _, _, _, _, _ => none
  | n + 1, x1, x2, x3, x4, z =>
    (rg x4).bind fun _ =>
    if (64 : Int) ≤ x4 then
      k64 x3 z
    else
      (aiz 64 x4).bind fun j1 =>
      (rg (z.1 24 0 j1)).bind fun _ =>
      if (z.1 24 0 j1) = (1 : Int) then
        (aiz 64 x4).bind fun j2 =>
        (rg (z.1 28 0 j2)).bind fun _ =>
        (rg x1).bind fun _ =>
        if (z.1 28 0 j2) = x1 then
          (rg x2).bind fun _ =>
          if x2 = (-1 : Int) then
            di_Y_queued_5 k64 n x1 x2 (x3 + (1 : Int)) (x4 + (1 : Int)) z
          else
            (aiz 64 x4).bind fun j3 =>
            (rg (z.1 25 0 j3)).bind fun _ =>
            if (z.1 25 0 j3) = x2 then
              di_Y_queued_5 k64 n x1 x2 (x3 + (1 : Int)) (x4 + (1 : Int)) z
            else
              di_Y_queued_5 k64 n x1 x2 (x3 + (0 : Int)) (x4 + (1 : Int)) z
        else
          di_Y_queued_5 k64 n x1 x2 (x3 + (0 : Int)) (x4 + (1 : Int)) z
      else
        di_Y_queued_5 k64 n x1 x2 (x3 + (0 : Int)) (x4 + (1 : Int)) z
def di_Y_queued (x1 : Int) (x2 : Int) (z : MemI) : Option (Int × MemI) :=
  di_Y_queued_5
    (fun x3 z4 =>
      some (x3, z4))
    FU x1 x2 (0 : Int) (0 : Int) z
def di_Y_on_4 (k42 : Int → MemI → Option (Int × MemI)) : Nat → Int → Int → Int → MemI → Option (Int × MemI)
  | 0, _, _, _, _ => none
  | n + 1, x1, x2, x3, z =>
    (rg x3).bind fun _ =>
    if (64 : Int) ≤ x3 then
      k42 x2 z
    else
      (aiz 64 x3).bind fun j1 =>
      (rg (z.1 24 0 j1)).bind fun _ =>
      if (z.1 24 0 j1) = (2 : Int) then
        (aiz 64 x3).bind fun j2 =>
        (rg (z.1 28 0 j2)).bind fun _ =>
        (rg x1).bind fun _ =>
        if (z.1 28 0 j2) = x1 then
          di_Y_on_4 k42 n x1 x3 (x3 + (1 : Int)) z
        else
          di_Y_on_4 k42 n x1 x2 (x3 + (1 : Int)) z
      else
        di_Y_on_4 k42 n x1 x2 (x3 + (1 : Int)) z
def di_Y_on (x1 : Int) (z : MemI) : Option (Int × MemI) :=
  di_Y_on_4
    (fun x2 z3 =>
      some (x2, z3))
    FU x1 (-1 : Int) (0 : Int) z
def di_Y_lose (x1 : Int) (z : MemI) : Option MemI :=
  (aiz 64 x1).bind fun j1 =>
  stN (pN z 24 0 j1 (0 : Int)) fun z2 =>
  (aiz 64 x1).bind fun j3 =>
  (aiz 24 (((4 : Int) * (z2.1 25 0 j3)) + (2 : Int))).bind fun j4 =>
  (aiz 24 (((4 : Int) * (z2.1 25 0 j3)) + (2 : Int))).bind fun j5 =>
  stN (pN z2 23 0 j5 ((z2.1 23 0 j4) + (1 : Int))) fun z6 =>
  some z6
def di_Y_leader_4 (k59 : Int → MemI → Option (Int × MemI)) : Nat → Int → Int → Int → MemI → Option (Int × MemI)
  | 0, _, _, _, _ => none
  | n + 1, x1, x2, x3, z =>
    (rg (z.1 0 0 9)).bind fun _ =>
    (rg x3).bind fun _ =>
    if (z.1 0 0 9) ≤ x3 then
      k59 x2 z
    else
      (di_Y_queued x1 x3 z).bind fun r1 =>
      (rg r1.1).bind fun _ =>
      if r1.1 ≤ (0 : Int) then
        di_Y_leader_4 k59 n x1 x2 (x3 + (1 : Int)) r1.2
      else
        (rg x2).bind fun _ =>
        if x2 = (-1 : Int) then
          di_Y_leader_4 k59 n x1 x3 (x3 + (1 : Int)) r1.2
        else
          (aiz 144 (((6 : Int) * x1) + x3)).bind fun j2 =>
          (aiz 144 (((6 : Int) * x1) + x2)).bind fun j3 =>
          (rg (r1.2.1 31 0 j3)).bind fun _ =>
          (rg (r1.2.1 31 0 j2)).bind fun _ =>
          if (r1.2.1 31 0 j3) ≤ (r1.2.1 31 0 j2) then
            di_Y_leader_4 k59 n x1 x2 (x3 + (1 : Int)) r1.2
          else
            di_Y_leader_4 k59 n x1 x3 (x3 + (1 : Int)) r1.2
def di_Y_leader (x1 : Int) (z : MemI) : Option (Int × MemI) :=
  di_Y_leader_4
    (fun x2 z4 =>
      some (x2, z4))
    FU x1 (-1 : Int) (0 : Int) z
def di_Y_head_5 (k75 : Int → MemI → Option (Int × MemI)) : Nat → Int → Int → Int → Int → MemI → Option (Int × MemI)
  | 0, _, _, _, _, _ => none
  | n + 1, x1, x2, x3, x4, z =>
    (rg x4).bind fun _ =>
    if (64 : Int) ≤ x4 then
      k75 x3 z
    else
      (aiz 64 x4).bind fun j1 =>
      (rg (z.1 24 0 j1)).bind fun _ =>
      if (z.1 24 0 j1) = (1 : Int) then
        (aiz 64 x4).bind fun j2 =>
        (rg (z.1 28 0 j2)).bind fun _ =>
        (rg x1).bind fun _ =>
        if (z.1 28 0 j2) = x1 then
          (aiz 64 x4).bind fun j3 =>
          (rg (z.1 25 0 j3)).bind fun _ =>
          (rg x2).bind fun _ =>
          if (z.1 25 0 j3) = x2 then
            (rg x3).bind fun _ =>
            if x3 = (-1 : Int) then
              di_Y_head_5 k75 n x1 x2 x4 (x4 + (1 : Int)) z
            else
              (aiz 64 x4).bind fun j4 =>
              (aiz 64 x3).bind fun j5 =>
              (rg (z.1 30 0 j5)).bind fun _ =>
              (rg (z.1 30 0 j4)).bind fun _ =>
              if (z.1 30 0 j5) ≤ (z.1 30 0 j4) then
                di_Y_head_5 k75 n x1 x2 x3 (x4 + (1 : Int)) z
              else
                di_Y_head_5 k75 n x1 x2 x4 (x4 + (1 : Int)) z
          else
            di_Y_head_5 k75 n x1 x2 x3 (x4 + (1 : Int)) z
        else
          di_Y_head_5 k75 n x1 x2 x3 (x4 + (1 : Int)) z
      else
        di_Y_head_5 k75 n x1 x2 x3 (x4 + (1 : Int)) z
def di_Y_head (x1 : Int) (x2 : Int) (z : MemI) : Option (Int × MemI) :=
  di_Y_head_5
    (fun x3 z6 =>
      some (x3, z6))
    FU x1 x2 (-1 : Int) (0 : Int) z
def di_Y_choose_2 (k84 : Int → Int → Int → MemI → Option MemI) (k186 : MemI → Option MemI) : Nat → Int → Int → MemI → Option MemI
  | 0, _, _, _ => none
  | n + 1, x1, x2, z =>
    (rg x2).bind fun _ =>
    if (100 : Int) ≤ x2 then
      k186 z
    else
      (di_Y_leader x1 z).bind fun r1 =>
      stW (((6 : Int) * x1) + r1.1) fun v2 =>
      (aiz 144 v2).bind fun j3 =>
      (aiz 144 v2).bind fun j4 =>
      (rg (r1.2.1 33 0 j4)).bind fun _ =>
      if (r1.2.1 33 0 j4) = (0 : Int) then
        (aiz 24 x1).bind fun j5 =>
        (aiz 144 v2).bind fun j6 =>
        stN (pN r1.2 32 0 j6 ((r1.2.1 32 0 j3) + (r1.2.1 6 0 j5))) fun z7 =>
        (biz (1 : Int)).bind fun _ =>
        (aiz 144 v2).bind fun j9 =>
        stN (pN z7 33 0 j9 (1 : Int)) fun z10 =>
        (di_Y_head x1 r1.1 z10).bind fun r11 =>
        (di_Y_sizeOf r11.1 r11.2).bind fun r12 =>
        (aiz 144 v2).bind fun j13 =>
        (rg (r12.2.1 32 0 j13)).bind fun _ =>
        (rg r12.1).bind fun _ =>
        if (r12.2.1 32 0 j13) < r12.1 then
          stN (pN r12.2 0 0 37 ((r12.2.1 0 0 37) + (1 : Int))) fun z14 =>
          (aiz 144 v2).bind fun j15 =>
          stN (pN z14 31 0 j15 ((r12.2.1 0 0 37) + (1 : Int))) fun z16 =>
          (biz (0 : Int)).bind fun _ =>
          (aiz 144 v2).bind fun j18 =>
          stN (pN z16 33 0 j18 (0 : Int)) fun z19 =>
          di_Y_choose_2 k84 k186 n x1 (x2 + (1 : Int)) z19
        else
          k84 x1 v2 r11.1 r12.2
      else
        (aiz 144 v2).bind fun j20 =>
        stN (pN r1.2 32 0 j20 ((r1.2.1 32 0 j3) + (0 : Int))) fun z21 =>
        (biz (1 : Int)).bind fun _ =>
        (aiz 144 v2).bind fun j23 =>
        stN (pN z21 33 0 j23 (1 : Int)) fun z24 =>
        (di_Y_head x1 r1.1 z24).bind fun r25 =>
        (di_Y_sizeOf r25.1 r25.2).bind fun r26 =>
        (aiz 144 v2).bind fun j27 =>
        (rg (r26.2.1 32 0 j27)).bind fun _ =>
        (rg r26.1).bind fun _ =>
        if (r26.2.1 32 0 j27) < r26.1 then
          stN (pN r26.2 0 0 37 ((r26.2.1 0 0 37) + (1 : Int))) fun z28 =>
          (aiz 144 v2).bind fun j29 =>
          stN (pN z28 31 0 j29 ((r26.2.1 0 0 37) + (1 : Int))) fun z30 =>
          (biz (0 : Int)).bind fun _ =>
          (aiz 144 v2).bind fun j32 =>
          stN (pN z30 33 0 j32 (0 : Int)) fun z33 =>
          di_Y_choose_2 k84 k186 n x1 (x2 + (1 : Int)) z33
        else
          k84 x1 v2 r25.1 r26.2
def di_Y_choose (x1 : Int) (z : MemI) : Option MemI :=
  di_Y_choose_2
    (fun x1 x4 x5 z34 =>
      (aiz 144 x4).bind fun j35 =>
      (di_Y_sizeOf x5 z34).bind fun r36 =>
      (aiz 144 x4).bind fun j37 =>
      stN (pN r36.2 32 0 j37 ((z34.1 32 0 j35) - r36.1)) fun z38 =>
      (aiz 64 x5).bind fun j39 =>
      stN (pN z38 24 0 j39 (2 : Int)) fun z40 =>
      (di_Y_sizeOf x5 z40).bind fun r41 =>
      (nn x1).bind fun _ =>
      (aiz 12 (x1 / (2 : Int))).bind fun j42 =>
      (aiz 64 x5).bind fun j43 =>
      stN (pN r41.2 29 0 j43 ((z40.1 0 0 36) + (r41.1 * (r41.2.1 4 0 j42)))) fun z44 =>
      stN (pN z44 0 0 37 ((z44.1 0 0 37) + (1 : Int))) fun z45 =>
      (aiz 64 x5).bind fun j46 =>
      stN (pN z45 30 0 j46 ((z44.1 0 0 37) + (1 : Int))) fun z47 =>
      some z47)
    (fun z48 =>
      some z48)
    FU x1 (0 : Int) z
def di_Y_put (x1 : Int) (x2 : Int) (z : MemI) : Option MemI :=
  (di_Y_endOf x1 z).bind fun r1 =>
  (di_Y_way x2 r1.1 r1.2).bind fun r2 =>
  (rg r2.1).bind fun _ =>
  if r2.1 = (-1 : Int) then
    (di_Y_lose x1 r2.2).bind fun z3 =>
    some z3
  else
    (di_Y_queued r2.1 (-1 : Int) r2.2).bind fun r4 =>
    (aiz 24 r2.1).bind fun j5 =>
    (rg r4.1).bind fun _ =>
    (rg (r4.2.1 7 0 j5)).bind fun _ =>
    if r4.1 < (r4.2.1 7 0 j5) then
      (aiz 64 x1).bind fun j6 =>
      stW (((6 : Int) * r2.1) + (r4.2.1 25 0 j6)) fun v7 =>
      (aiz 64 x1).bind fun j8 =>
      (di_Y_queued r2.1 (r4.2.1 25 0 j8) r4.2).bind fun r9 =>
      (rg r9.1).bind fun _ =>
      if r9.1 = (0 : Int) then
        stN (pN r9.2 0 0 37 ((r9.2.1 0 0 37) + (1 : Int))) fun z19 =>
        (aiz 144 v7).bind fun j20 =>
        stN (pN z19 31 0 j20 ((r9.2.1 0 0 37) + (1 : Int))) fun z21 =>
        (aiz 144 v7).bind fun j22 =>
        stN (pN z21 32 0 j22 (0 : Int)) fun z23 =>
        (biz (0 : Int)).bind fun _ =>
        (aiz 144 v7).bind fun j25 =>
        stN (pN z23 33 0 j25 (0 : Int)) fun z26 =>
        (aiz 64 x1).bind fun j27 =>
        stN (pN z26 24 0 j27 (1 : Int)) fun z28 =>
        (aiz 64 x1).bind fun j29 =>
        stN (pN z28 28 0 j29 r2.1) fun z30 =>
        stN (pN z30 0 0 37 ((z30.1 0 0 37) + (1 : Int))) fun z31 =>
        (aiz 64 x1).bind fun j32 =>
        stN (pN z31 30 0 j32 ((z30.1 0 0 37) + (1 : Int))) fun z33 =>
        (di_Y_on r2.1 z33).bind fun r34 =>
        (rg r34.1).bind fun _ =>
        if r34.1 = (-1 : Int) then
          (di_Y_choose r2.1 r34.2).bind fun z35 =>
          some z35
        else
          some r34.2
      else
        (aiz 64 x1).bind fun j10 =>
        stN (pN r9.2 24 0 j10 (1 : Int)) fun z11 =>
        (aiz 64 x1).bind fun j12 =>
        stN (pN z11 28 0 j12 r2.1) fun z13 =>
        stN (pN z13 0 0 37 ((z13.1 0 0 37) + (1 : Int))) fun z14 =>
        (aiz 64 x1).bind fun j15 =>
        stN (pN z14 30 0 j15 ((z13.1 0 0 37) + (1 : Int))) fun z16 =>
        (di_Y_on r2.1 z16).bind fun r17 =>
        (rg r17.1).bind fun _ =>
        if r17.1 = (-1 : Int) then
          (di_Y_choose r2.1 r17.2).bind fun z18 =>
          some z18
        else
          some r17.2
    else
      (di_Y_lose x1 r4.2).bind fun z36 =>
      some z36
def di_Y_make_17 (k40 : Int → Int → Int → Int → Int → MemI → Option MemI) : Nat → Int → Int → Int → Int → Int → MemI → Option MemI
  | 0, _, _, _, _, _, _ => none
  | n + 1, x1, x2, x3, x4, x5, z =>
    (rg x5).bind fun _ =>
    if (64 : Int) ≤ x5 then
      k40 x1 x2 x3 x4 x5 z
    else
      (aiz 64 x5).bind fun j4 =>
      (rg (z.1 24 0 j4)).bind fun _ =>
      if (z.1 24 0 j4) = (0 : Int) then
        k40 x1 x2 x3 x4 x5 z
      else
        di_Y_make_17 k40 n x1 x2 x3 x4 (x5 + (1 : Int)) z
def di_Y_make (x1 : Int) (x2 : Int) (x3 : Int) (x4 : Int) (z : MemI) : Option MemI :=
  (aiz 24 (((4 : Int) * x1) + (0 : Int))).bind fun j1 =>
  (aiz 24 (((4 : Int) * x1) + (0 : Int))).bind fun j2 =>
  stN (pN z 23 0 j2 ((z.1 23 0 j1) + (1 : Int))) fun z3 =>
  di_Y_make_17
    (fun x1 x2 x3 x4 x5 z5 =>
      (rg x5).bind fun _ =>
      if x5 = (64 : Int) then
        (aiz 24 (((4 : Int) * x1) + (2 : Int))).bind fun j14 =>
        (aiz 24 (((4 : Int) * x1) + (2 : Int))).bind fun j15 =>
        stN (pN z5 23 0 j15 ((z5.1 23 0 j14) + (1 : Int))) fun z16 =>
        some z16
      else
        (aiz 64 x5).bind fun j6 =>
        stN (pN z5 25 0 j6 x1) fun z7 =>
        (aiz 64 x5).bind fun j8 =>
        stN (pN z7 26 0 j8 x2) fun z9 =>
        (biz x3).bind fun _ =>
        (aiz 64 x5).bind fun j11 =>
        stN (pN z9 27 0 j11 x3) fun z12 =>
        (di_Y_put x5 x4 z12).bind fun z13 =>
        some z13)
    FU x1 x2 x3 x4 (0 : Int) z3
def di_Y_setTimeout (x1 : Int) (z : MemI) : Option MemI :=
  (aiz 6 x1).bind fun j1 =>
  (aiz 6 x1).bind fun j2 =>
  stN (pN z 21 0 j2 ((z.1 0 0 36) + (z.1 14 0 j1))) fun z3 =>
  stN (pN z3 0 0 37 ((z3.1 0 0 37) + (1 : Int))) fun z4 =>
  (aiz 6 x1).bind fun j5 =>
  stN (pN z4 22 0 j5 ((z3.1 0 0 37) + (1 : Int))) fun z6 =>
  some z6
def di_Y_fill_0 (k84 : MemI → Option MemI) : Nat → Int → MemI → Option MemI
  | 0, _, _ => none
  | n + 1, x1, z =>
    (aiz 6 x1).bind fun j1 =>
    (aiz 6 x1).bind fun j2 =>
    (aiz 6 x1).bind fun j3 =>
    (rg ((z.1 16 0 j2) + (z.1 13 0 j3))).bind fun _ =>
    (rg (z.1 17 0 j1)).bind fun _ =>
    if ((z.1 16 0 j2) + (z.1 13 0 j3)) ≤ (z.1 17 0 j1) then
      k84 z
    else
      (aiz 6 x1).bind fun j4 =>
      (aiz 6 x1).bind fun j5 =>
      (rg (z.1 11 0 j5)).bind fun _ =>
      (rg (z.1 17 0 j4)).bind fun _ =>
      if (z.1 11 0 j5) ≤ (z.1 17 0 j4) then
        k84 z
      else
        (aiz 6 x1).bind fun j6 =>
        (rg (z.1 21 0 j6)).bind fun _ =>
        if (z.1 21 0 j6) = (-1 : Int) then
          (di_Y_setTimeout x1 z).bind fun z12 =>
          (aiz 6 x1).bind fun j13 =>
          (aiz 6 x1).bind fun j14 =>
          (di_Y_make x1 (z12.1 17 0 j13) (0 : Int) (z12.1 9 0 j14) z12).bind fun z15 =>
          (aiz 6 x1).bind fun j16 =>
          stN (pN z15 17 0 j16 ((z12.1 17 0 j13) + (1 : Int))) fun z17 =>
          di_Y_fill_0 k84 n x1 z17
        else
          (aiz 6 x1).bind fun j7 =>
          (aiz 6 x1).bind fun j8 =>
          (di_Y_make x1 (z.1 17 0 j7) (0 : Int) (z.1 9 0 j8) z).bind fun z9 =>
          (aiz 6 x1).bind fun j10 =>
          stN (pN z9 17 0 j10 ((z.1 17 0 j7) + (1 : Int))) fun z11 =>
          di_Y_fill_0 k84 n x1 z11
def di_Y_fill (x1 : Int) (z : MemI) : Option MemI :=
  di_Y_fill_0
    (fun z18 =>
      some z18)
    FU x1 z
def di_Y_arrive (x1 : Int) (z : MemI) : Option MemI :=
  (aiz 64 x1).bind fun j1 =>
  (di_Y_leads (z.1 28 0 j1) z).bind fun r2 =>
  (di_Y_endOf x1 r2.2).bind fun r3 =>
  (rg r2.1).bind fun _ =>
  (rg r3.1).bind fun _ =>
  if r2.1 = r3.1 then
    (aiz 64 x1).bind fun j4 =>
    (aiz 64 x1).bind fun j5 =>
    (aiz 64 x1).bind fun j6 =>
    stN (pN r3.2 24 0 j6 (0 : Int)) fun z7 =>
    (aiz 24 (((4 : Int) * (r3.2.1 25 0 j4)) + (1 : Int))).bind fun j8 =>
    (aiz 24 (((4 : Int) * (r3.2.1 25 0 j4)) + (1 : Int))).bind fun j9 =>
    stN (pN z7 23 0 j9 ((z7.1 23 0 j8) + (1 : Int))) fun z10 =>
    (aiz 64 x1).bind fun j11 =>
    (rg (z10.1 27 0 j11)).bind fun _ =>
    if (z10.1 27 0 j11) = (0 : Int) then
      (aiz 6 (r3.2.1 25 0 j4)).bind fun j35 =>
      (rg (r3.2.1 26 0 j5)).bind fun _ =>
      (rg (z10.1 18 0 j35)).bind fun _ =>
      if (r3.2.1 26 0 j5) = (z10.1 18 0 j35) then
        (aiz 6 (r3.2.1 25 0 j4)).bind fun j41 =>
        stN (pN z10 18 0 j41 ((r3.2.1 26 0 j5) + (1 : Int))) fun z42 =>
        (aiz 6 (r3.2.1 25 0 j4)).bind fun j43 =>
        (di_Y_make (r3.2.1 25 0 j4) (z42.1 18 0 j43) (1 : Int) r2.1 z42).bind fun z44 =>
        some z44
      else
        (aiz 6 (r3.2.1 25 0 j4)).bind fun j36 =>
        (aiz 6 (r3.2.1 25 0 j4)).bind fun j37 =>
        stN (pN z10 18 0 j37 (z10.1 18 0 j36)) fun z38 =>
        (aiz 6 (r3.2.1 25 0 j4)).bind fun j39 =>
        (di_Y_make (r3.2.1 25 0 j4) (z38.1 18 0 j39) (1 : Int) r2.1 z38).bind fun z40 =>
        some z40
    else
      (aiz 6 (r3.2.1 25 0 j4)).bind fun j12 =>
      (rg (r3.2.1 26 0 j5)).bind fun _ =>
      (rg (z10.1 16 0 j12)).bind fun _ =>
      if (r3.2.1 26 0 j5) ≤ (z10.1 16 0 j12) then
        some z10
      else
        (aiz 6 (r3.2.1 25 0 j4)).bind fun j13 =>
        stN (pN z10 16 0 j13 (r3.2.1 26 0 j5)) fun z14 =>
        (aiz 6 (r3.2.1 25 0 j4)).bind fun j15 =>
        (rg (z14.1 17 0 j15)).bind fun _ =>
        if (r3.2.1 26 0 j5) ≤ (z14.1 17 0 j15) then
          (aiz 6 (r3.2.1 25 0 j4)).bind fun j16 =>
          (aiz 6 (r3.2.1 25 0 j4)).bind fun j17 =>
          stN (pN z14 17 0 j17 (z14.1 17 0 j16)) fun z18 =>
          (aiz 6 (r3.2.1 25 0 j4)).bind fun j19 =>
          stN (pN z18 21 0 j19 (-1 : Int)) fun z20 =>
          (aiz 6 (r3.2.1 25 0 j4)).bind fun j21 =>
          (aiz 6 (r3.2.1 25 0 j4)).bind fun j22 =>
          (rg (z20.1 17 0 j22)).bind fun _ =>
          (rg (z20.1 16 0 j21)).bind fun _ =>
          if (z20.1 17 0 j22) ≤ (z20.1 16 0 j21) then
            (di_Y_fill (r3.2.1 25 0 j4) z20).bind fun z23 =>
            some z23
          else
            (di_Y_setTimeout (r3.2.1 25 0 j4) z20).bind fun z24 =>
            (di_Y_fill (r3.2.1 25 0 j4) z24).bind fun z25 =>
            some z25
        else
          (aiz 6 (r3.2.1 25 0 j4)).bind fun j26 =>
          stN (pN z14 17 0 j26 (r3.2.1 26 0 j5)) fun z27 =>
          (aiz 6 (r3.2.1 25 0 j4)).bind fun j28 =>
          stN (pN z27 21 0 j28 (-1 : Int)) fun z29 =>
          (aiz 6 (r3.2.1 25 0 j4)).bind fun j30 =>
          (aiz 6 (r3.2.1 25 0 j4)).bind fun j31 =>
          (rg (z29.1 17 0 j31)).bind fun _ =>
          (rg (z29.1 16 0 j30)).bind fun _ =>
          if (z29.1 17 0 j31) ≤ (z29.1 16 0 j30) then
            (di_Y_fill (r3.2.1 25 0 j4) z29).bind fun z32 =>
            some z32
          else
            (di_Y_setTimeout (r3.2.1 25 0 j4) z29).bind fun z33 =>
            (di_Y_fill (r3.2.1 25 0 j4) z33).bind fun z34 =>
            some z34
  else
    (di_Y_put x1 r2.1 r3.2).bind fun z45 =>
    some z45
def di_Y_begin_15 (k58 : MemI → Option MemI) : Nat → Int → MemI → Option MemI
  | 0, _, _ => none
  | n + 1, x1, z =>
    (rg (z.1 0 0 9)).bind fun _ =>
    (rg x1).bind fun _ =>
    if (z.1 0 0 9) ≤ x1 then
      k58 z
    else
      (aiz 6 x1).bind fun j3 =>
      (aiz 6 x1).bind fun j4 =>
      stN (pN z 19 0 j4 (z.1 15 0 j3)) fun z5 =>
      stN (pN z5 0 0 37 ((z5.1 0 0 37) + (1 : Int))) fun z6 =>
      (aiz 6 x1).bind fun j7 =>
      stN (pN z6 20 0 j7 ((z5.1 0 0 37) + (1 : Int))) fun z8 =>
      di_Y_begin_15 k58 n (x1 + (1 : Int)) z8
def di_Y_begin (z : MemI) : Option MemI :=
  (rg (z.1 0 0 35)).bind fun _ =>
  if (z.1 0 0 35) = (0 : Int) then
    (biz (1 : Int)).bind fun _ =>
    stN (pN z 0 0 35 (1 : Int)) fun z2 =>
    di_Y_begin_15
      (fun z9 =>
        some z9)
      FU (0 : Int) z2
  else
    some z
def di_Y_note (x1 : Int) (x2 : Int) (x3 : Int) (z : MemI) : Option MemI :=
  (nn (z.1 0 0 38)).bind fun _ =>
  (aiz 16 ((z.1 0 0 38) % (16 : Int))).bind fun j1 =>
  (rg (z.1 0 0 36)).bind fun _ =>
  (rg x1).bind fun _ =>
  (rg x2).bind fun _ =>
  (rg x3).bind fun _ =>
  stN (pM z j1 (((((z.1 0 0 36) * (1048576 : Int)) + (x1 * (65536 : Int))) + (x2 * (256 : Int))) + x3)) fun z2 =>
  stN (pN z2 0 0 38 ((z2.1 0 0 38) + (1 : Int))) fun z3 =>
  some z3
def di_Y_sooner (x0 : Int) (x2 : Int) (x3 : Int) : Option Int :=
  (rg x2).bind fun _ =>
  (rg x3).bind fun _ =>
  stW ((x2 * (4294967296 : Int)) + x3) fun v1 =>
  (rl x0).bind fun _ =>
  (rg (cmpZ x0 (0 : Int))).bind fun _ =>
  if (cmpZ x0 (0 : Int)) = (0 : Int) then
    some v1
  else
    (rl v1).bind fun _ =>
    (rg (cmpZ v1 x0)).bind fun _ =>
    if (0 : Int) ≤ (cmpZ v1 x0) then
      some x0
    else
      some v1
def di_Y_soonest_4 (k43 : Int → MemI → Option (Int × MemI)) : Nat → Int → Int → MemI → Option (Int × MemI)
  | 0, _, _, _ => none
  | n + 1, x1, x3, z =>
    (rg x3).bind fun _ =>
    if (64 : Int) ≤ x3 then
      k43 x1 z
    else
      (aiz 64 x3).bind fun j1 =>
      (rg (z.1 24 0 j1)).bind fun _ =>
      if (z.1 24 0 j1) < (2 : Int) then
        di_Y_soonest_4 k43 n x1 (x3 + (1 : Int)) z
      else
        (aiz 64 x3).bind fun j2 =>
        (aiz 64 x3).bind fun j3 =>
        (di_Y_sooner x1 (z.1 29 0 j2) (z.1 30 0 j3)).bind fun v4 =>
        di_Y_soonest_4 k43 n v4 (x3 + (1 : Int)) z
def di_Y_soonest_45 (k113 : Int → MemI → Option (Int × MemI)) : Nat → Int → Int → MemI → Option (Int × MemI)
  | 0, _, _, _ => none
  | n + 1, x1, x3, z =>
    (rg (z.1 0 0 9)).bind fun _ =>
    (rg x3).bind fun _ =>
    if (z.1 0 0 9) ≤ x3 then
      k113 x1 z
    else
      (aiz 6 x3).bind fun j6 =>
      (rg (z.1 19 0 j6)).bind fun _ =>
      if (z.1 19 0 j6) = (-1 : Int) then
        (aiz 6 x3).bind fun j7 =>
        (rg (z.1 21 0 j7)).bind fun _ =>
        if (z.1 21 0 j7) = (-1 : Int) then
          di_Y_soonest_45 k113 n x1 (x3 + (1 : Int)) z
        else
          (aiz 6 x3).bind fun j8 =>
          (aiz 6 x3).bind fun j9 =>
          (di_Y_sooner x1 (z.1 21 0 j8) (z.1 22 0 j9)).bind fun v10 =>
          di_Y_soonest_45 k113 n v10 (x3 + (1 : Int)) z
      else
        (aiz 6 x3).bind fun j11 =>
        (aiz 6 x3).bind fun j12 =>
        (di_Y_sooner x1 (z.1 19 0 j11) (z.1 20 0 j12)).bind fun v13 =>
        (aiz 6 x3).bind fun j14 =>
        (rg (z.1 21 0 j14)).bind fun _ =>
        if (z.1 21 0 j14) = (-1 : Int) then
          di_Y_soonest_45 k113 n v13 (x3 + (1 : Int)) z
        else
          (aiz 6 x3).bind fun j15 =>
          (aiz 6 x3).bind fun j16 =>
          (di_Y_sooner v13 (z.1 21 0 j15) (z.1 22 0 j16)).bind fun v17 =>
          di_Y_soonest_45 k113 n v17 (x3 + (1 : Int)) z
def di_Y_soonest (z : MemI) : Option (Int × MemI) :=
  di_Y_soonest_4
    (fun x1 z5 =>
      di_Y_soonest_45
        (fun x1 z18 =>
          some (x1, z18))
        FU x1 (0 : Int) z5)
    FU (0 : Int) (0 : Int) z
def di_Y_moved (x1 : Int) (z : MemI) : Option MemI :=
  (aiz 64 x1).bind fun j1 =>
  (rg (z.1 27 0 j1)).bind fun _ =>
  if (z.1 27 0 j1) = (0 : Int) then
    (aiz 64 x1).bind fun j2 =>
    (aiz 64 x1).bind fun j3 =>
    (aiz 64 x1).bind fun j4 =>
    (rg (z.1 24 0 j4)).bind fun _ =>
    if (z.1 24 0 j4) = (3 : Int) then
      (di_Y_leads (z.1 28 0 j3) z).bind fun r16 =>
      (di_Y_note (3 : Int) r16.1 (z.1 26 0 j2) r16.2).bind fun z17 =>
      (di_Y_arrive x1 z17).bind fun z18 =>
      some z18
    else
      (di_Y_note (2 : Int) (z.1 28 0 j3) (z.1 26 0 j2) z).bind fun z5 =>
      (aiz 64 x1).bind fun j6 =>
      stN (pN z5 24 0 j6 (3 : Int)) fun z7 =>
      (nn (z.1 28 0 j3)).bind fun _ =>
      (aiz 12 ((z.1 28 0 j3) / (2 : Int))).bind fun j8 =>
      (aiz 64 x1).bind fun j9 =>
      stN (pN z7 29 0 j9 ((z7.1 0 0 36) + (z7.1 5 0 j8))) fun z10 =>
      stN (pN z10 0 0 37 ((z10.1 0 0 37) + (1 : Int))) fun z11 =>
      (aiz 64 x1).bind fun j12 =>
      stN (pN z11 30 0 j12 ((z10.1 0 0 37) + (1 : Int))) fun z13 =>
      (di_Y_queued (z.1 28 0 j3) (-1 : Int) z13).bind fun r14 =>
      (rg r14.1).bind fun _ =>
      if r14.1 ≤ (0 : Int) then
        some r14.2
      else
        (di_Y_choose (z.1 28 0 j3) r14.2).bind fun z15 =>
        some z15
  else
    (aiz 64 x1).bind fun j19 =>
    stW ((z.1 26 0 j19) + (128 : Int)) fun v20 =>
    (aiz 64 x1).bind fun j21 =>
    (aiz 64 x1).bind fun j22 =>
    (rg (z.1 24 0 j22)).bind fun _ =>
    if (z.1 24 0 j22) = (3 : Int) then
      (di_Y_leads (z.1 28 0 j21) z).bind fun r34 =>
      (di_Y_note (3 : Int) r34.1 v20 r34.2).bind fun z35 =>
      (di_Y_arrive x1 z35).bind fun z36 =>
      some z36
    else
      (di_Y_note (2 : Int) (z.1 28 0 j21) v20 z).bind fun z23 =>
      (aiz 64 x1).bind fun j24 =>
      stN (pN z23 24 0 j24 (3 : Int)) fun z25 =>
      (nn (z.1 28 0 j21)).bind fun _ =>
      (aiz 12 ((z.1 28 0 j21) / (2 : Int))).bind fun j26 =>
      (aiz 64 x1).bind fun j27 =>
      stN (pN z25 29 0 j27 ((z25.1 0 0 36) + (z25.1 5 0 j26))) fun z28 =>
      stN (pN z28 0 0 37 ((z28.1 0 0 37) + (1 : Int))) fun z29 =>
      (aiz 64 x1).bind fun j30 =>
      stN (pN z29 30 0 j30 ((z28.1 0 0 37) + (1 : Int))) fun z31 =>
      (di_Y_queued (z.1 28 0 j21) (-1 : Int) z31).bind fun r32 =>
      (rg r32.1).bind fun _ =>
      if r32.1 ≤ (0 : Int) then
        some r32.2
      else
        (di_Y_choose (z.1 28 0 j21) r32.2).bind fun z33 =>
        some z33
def di_Y_step_37 (k68 : Int → MemI → Option (Int × MemI)) (k120 : Int → MemI → Option (Int × MemI)) (k185 : Int → MemI → Option (Int × MemI)) : Nat → Int → Int → MemI → Option (Int × MemI)
  | 0, _, _, _ => none
  | n + 1, x3, x4, z =>
    (rg (z.1 0 0 9)).bind fun _ =>
    (rg x4).bind fun _ =>
    if (z.1 0 0 9) ≤ x4 then
      k185 x3 z
    else
      (aiz 6 x4).bind fun j5 =>
      (rg (z.1 19 0 j5)).bind fun _ =>
      if (z.1 19 0 j5) = (-1 : Int) then
        (aiz 6 x4).bind fun j6 =>
        (rg (z.1 21 0 j6)).bind fun _ =>
        if (z.1 21 0 j6) = (-1 : Int) then
          di_Y_step_37 k68 k120 k185 n x3 (x4 + (1 : Int)) z
        else
          (aiz 6 x4).bind fun j7 =>
          (rg (z.1 22 0 j7)).bind fun _ =>
          (rg x3).bind fun _ =>
          if (z.1 22 0 j7) = x3 then
            k120 x4 z
          else
            di_Y_step_37 k68 k120 k185 n x3 (x4 + (1 : Int)) z
      else
        (aiz 6 x4).bind fun j8 =>
        (rg (z.1 20 0 j8)).bind fun _ =>
        (rg x3).bind fun _ =>
        if (z.1 20 0 j8) = x3 then
          k68 x4 z
        else
          (aiz 6 x4).bind fun j9 =>
          (rg (z.1 21 0 j9)).bind fun _ =>
          if (z.1 21 0 j9) = (-1 : Int) then
            di_Y_step_37 k68 k120 k185 n x3 (x4 + (1 : Int)) z
          else
            (aiz 6 x4).bind fun j10 =>
            (rg (z.1 22 0 j10)).bind fun _ =>
            if (z.1 22 0 j10) = x3 then
              k120 x4 z
            else
              di_Y_step_37 k68 k120 k185 n x3 (x4 + (1 : Int)) z
def di_Y_step_188 (k217 : Int → MemI → Option (Int × MemI)) (k231 : MemI → Option (Int × MemI)) : Nat → Int → Int → MemI → Option (Int × MemI)
  | 0, _, _, _ => none
  | n + 1, x3, x4, z =>
    (rg x4).bind fun _ =>
    if (64 : Int) ≤ x4 then
      k231 z
    else
      (aiz 64 x4).bind fun j32 =>
      (rg (z.1 24 0 j32)).bind fun _ =>
      if (z.1 24 0 j32) < (2 : Int) then
        di_Y_step_188 k217 k231 n x3 (x4 + (1 : Int)) z
      else
        (aiz 64 x4).bind fun j33 =>
        (rg (z.1 30 0 j33)).bind fun _ =>
        (rg x3).bind fun _ =>
        if (z.1 30 0 j33) = x3 then
          k217 x4 z
        else
          di_Y_step_188 k217 k231 n x3 (x4 + (1 : Int)) z
def di_Y_step (z : MemI) : Option (Int × MemI) :=
  (di_Y_begin z).bind fun z1 =>
  (di_Y_soonest z1).bind fun r2 =>
  (rl r2.1).bind fun _ =>
  (rg (cmpZ r2.1 (0 : Int))).bind fun _ =>
  if (cmpZ r2.1 (0 : Int)) = (0 : Int) then
    (biz (0 : Int)).bind fun _ =>
    some ((0 : Int), r2.2)
  else
    (nl r2.1).bind fun _ =>
    stW (r2.1 % (4294967296 : Int)) fun v3 =>
    stN (pN r2.2 0 0 36 (r2.1 / (4294967296 : Int))) fun z4 =>
    di_Y_step_37
      (fun x4 z11 =>
        (aiz 6 x4).bind fun j12 =>
        stN (pN z11 19 0 j12 (-1 : Int)) fun z13 =>
        (aiz 6 x4).bind fun j14 =>
        (di_Y_note (1 : Int) x4 (z13.1 17 0 j14) z13).bind fun z15 =>
        (di_Y_fill x4 z15).bind fun z16 =>
        (biz (1 : Int)).bind fun _ =>
        some ((1 : Int), z16))
      (fun x4 z18 =>
        (aiz 6 x4).bind fun j19 =>
        stN (pN z18 21 0 j19 (-1 : Int)) fun z20 =>
        (aiz 24 (((4 : Int) * x4) + (3 : Int))).bind fun j21 =>
        (aiz 24 (((4 : Int) * x4) + (3 : Int))).bind fun j22 =>
        stN (pN z20 23 0 j22 ((z20.1 23 0 j21) + (1 : Int))) fun z23 =>
        (aiz 6 x4).bind fun j24 =>
        (di_Y_note (4 : Int) x4 (z23.1 16 0 j24) z23).bind fun z25 =>
        (aiz 6 x4).bind fun j26 =>
        (aiz 6 x4).bind fun j27 =>
        stN (pN z25 17 0 j27 (z25.1 16 0 j26)) fun z28 =>
        (di_Y_fill x4 z28).bind fun z29 =>
        (biz (1 : Int)).bind fun _ =>
        some ((1 : Int), z29))
      (fun x3 z31 =>
        di_Y_step_188
          (fun x4 z34 =>
            (di_Y_moved x4 z34).bind fun z35 =>
            (biz (1 : Int)).bind fun _ =>
            some ((1 : Int), z35))
          (fun z37 =>
            (biz (1 : Int)).bind fun _ =>
            some ((1 : Int), z37))
          FU x3 (0 : Int) z31)
      FU v3 (0 : Int) z4
def di_Y_run_14 (k32 : Int → MemI → Option (Int × MemI)) : Nat → Int → Int → MemI → Option (Int × MemI)
  | 0, _, _, _ => none
  | n + 1, x1, x2, z =>
    (rg x1).bind fun _ =>
    (rg x2).bind fun _ =>
    if x1 ≤ x2 then
      k32 x2 z
    else
      (di_Y_step z).bind fun r1 =>
      (rg r1.1).bind fun _ =>
      if r1.1 = (0 : Int) then
        k32 x2 r1.2
      else
        di_Y_run_14 k32 n x1 (x2 + (1 : Int)) r1.2
def di_Y_run (x1 : Int) (z : MemI) : Option (Int × MemI) :=
  (rg x1).bind fun _ =>
  if x1 < (0 : Int) then
    some ((-1 : Int), z)
  else
    if x1 ≤ (50 : Int) then
      di_Y_run_14
        (fun x2 z2 =>
          some (x2, z2))
        FU x1 (0 : Int) z
    else
      some ((-1 : Int), z)
def di_Y_now (z : MemI) : Option (Int × MemI) :=
  some ((z.1 0 0 36), z)
def di_Y_trace (x1 : Int) (z : MemI) : Option (Int × MemI) :=
  (rg x1).bind fun _ =>
  if x1 < (0 : Int) then
    some ((-1 : Int), z)
  else
    if (15 : Int) < x1 then
      some ((-1 : Int), z)
    else
      (rg (z.1 0 0 38)).bind fun _ =>
      if x1 < (z.1 0 0 38) then
        (nn (((z.1 0 0 38) - (1 : Int)) - x1)).bind fun _ =>
        (aiz 16 ((((z.1 0 0 38) - (1 : Int)) - x1) % (16 : Int))).bind fun j1 =>
        some ((z.2 j1), z)
      else
        some ((-1 : Int), z)
def di_Y_waiting (x1 : Int) (x2 : Int) (z : MemI) : Option (Int × MemI) :=
  (di_Y_isPort x1 z).bind fun r1 =>
  (rg r1.1).bind fun _ =>
  if r1.1 = (0 : Int) then
    some ((-1 : Int), r1.2)
  else
    (rg x2).bind fun _ =>
    if x2 = (-1 : Int) then
      (di_Y_queued x1 x2 r1.2).bind fun r2 =>
      some (r2.1, r2.2)
    else
      (di_Y_isFlow x2 r1.2).bind fun r3 =>
      (rg r3.1).bind fun _ =>
      if r3.1 = (0 : Int) then
        some ((-1 : Int), r3.2)
      else
        (di_Y_queued x1 x2 r3.2).bind fun r4 =>
        some (r4.1, r4.2)
def di_Y_deficit (x1 : Int) (x2 : Int) (z : MemI) : Option (Int × MemI) :=
  (di_Y_isPort x1 z).bind fun r1 =>
  (rg r1.1).bind fun _ =>
  if r1.1 = (0 : Int) then
    some ((-1 : Int), r1.2)
  else
    (di_Y_isFlow x2 r1.2).bind fun r2 =>
    (rg r2.1).bind fun _ =>
    if r2.1 = (0 : Int) then
      some ((-1 : Int), r2.2)
    else
      (di_Y_queued x1 x2 r2.2).bind fun r3 =>
      (rg r3.1).bind fun _ =>
      if r3.1 = (0 : Int) then
        some ((0 : Int), r3.2)
      else
        (aiz 144 (((6 : Int) * x1) + x2)).bind fun j4 =>
        some ((r3.2.1 32 0 j4), r3.2)
def di_Y_onPort (x1 : Int) (z : MemI) : Option (Int × MemI) :=
  (di_Y_isPort x1 z).bind fun r1 =>
  (rg r1.1).bind fun _ =>
  if r1.1 = (0 : Int) then
    if (-1 : Int) = (-1 : Int) then
      some ((-1 : Int), r1.2)
    else
      (aiz 64 (-1 : Int)).bind fun j2 =>
      (aiz 64 (-1 : Int)).bind fun j3 =>
      (aiz 64 (-1 : Int)).bind fun j4 =>
      (rg (r1.2.1 27 0 j4)).bind fun _ =>
      if (r1.2.1 27 0 j4) = (0 : Int) then
        some (((((256 : Int) * (r1.2.1 25 0 j2)) + (r1.2.1 26 0 j3)) + (0 : Int)), r1.2)
      else
        some (((((256 : Int) * (r1.2.1 25 0 j2)) + (r1.2.1 26 0 j3)) + (128 : Int)), r1.2)
  else
    (di_Y_on x1 r1.2).bind fun r5 =>
    (rg r5.1).bind fun _ =>
    if r5.1 = (-1 : Int) then
      some ((-1 : Int), r5.2)
    else
      (aiz 64 r5.1).bind fun j6 =>
      (aiz 64 r5.1).bind fun j7 =>
      (aiz 64 r5.1).bind fun j8 =>
      (rg (r5.2.1 27 0 j8)).bind fun _ =>
      if (r5.2.1 27 0 j8) = (0 : Int) then
        some (((((256 : Int) * (r5.2.1 25 0 j6)) + (r5.2.1 26 0 j7)) + (0 : Int)), r5.2)
      else
        some (((((256 : Int) * (r5.2.1 25 0 j6)) + (r5.2.1 26 0 j7)) + (128 : Int)), r5.2)
def di_Y_timer (x1 : Int) (z : MemI) : Option (Int × MemI) :=
  (di_Y_isFlow x1 z).bind fun r1 =>
  (rg r1.1).bind fun _ =>
  if r1.1 = (0 : Int) then
    some ((-1 : Int), r1.2)
  else
    (aiz 6 x1).bind fun j2 =>
    some ((r1.2.1 21 0 j2), r1.2)
def di_Y_count (x1 : Int) (x2 : Int) (z : MemI) : Option (Int × MemI) :=
  (di_Y_isFlow x1 z).bind fun r1 =>
  (rg r1.1).bind fun _ =>
  if r1.1 = (0 : Int) then
    some ((-1 : Int), r1.2)
  else
    (rg x2).bind fun _ =>
    if x2 < (0 : Int) then
      some ((-1 : Int), r1.2)
    else
      if x2 ≤ (6 : Int) then
        if (3 : Int) ≤ x2 then
          (aiz 24 ((((4 : Int) * x1) + x2) - (3 : Int))).bind fun j2 =>
          some ((r1.2.1 23 0 j2), r1.2)
        else
          if x2 = (0 : Int) then
            (aiz 6 x1).bind fun j5 =>
            some ((r1.2.1 16 0 j5), r1.2)
          else
            if x2 = (1 : Int) then
              (aiz 6 x1).bind fun j4 =>
              some ((r1.2.1 17 0 j4), r1.2)
            else
              (aiz 6 x1).bind fun j3 =>
              some ((r1.2.1 18 0 j3), r1.2)
      else
        some ((-1 : Int), r1.2)
end
section
set_option maxRecDepth 20000 in
theorem i_X_isNode {Xx0 : Int32} {x0 : Int} {r0 : Int} (h : di_X_isNode x0 = some r0) (hx0 : Xx0 = Int32.ofInt x0) : dn_X_isNode Xx0 = some (Int32.ofInt r0) := by
  subst hx0
  unfold di_X_isNode at h
  unfold dn_X_isNode
  obtain ⟨_, g1, h⟩ := bnd h
  by_cases hc2 : x0 < (0 : Int)
  · have h := ite_t h hc2
    refine ite_gt (lt_i (x := x0) (y := (0 : Int)) (rg_some g1) (by decide) rfl l32_0) hc2 ?_
    obtain ⟨_, g3, h⟩ := bnd h
    refine bnd_i (bz_i g3 l32_0) ?_
    exact retp_i l32_0 h
  · have h := ite_f h hc2
    refine ite_gf (lt_i (x := x0) (y := (0 : Int)) (rg_some g1) (by decide) rfl l32_0) hc2 ?_
    by_cases hc4 : (8 : Int) ≤ x0
    · have h := ite_t h hc4
      refine ite_gt (le_i (x := (8 : Int)) (y := x0) (by decide) (rg_some g1) l32_8 rfl) hc4 ?_
      obtain ⟨_, g5, h⟩ := bnd h
      refine bnd_i (bz_i g5 l32_0) ?_
      exact retp_i l32_0 h
    · have h := ite_f h hc4
      refine ite_gf (le_i (x := (8 : Int)) (y := x0) (by decide) (rg_some g1) l32_8 rfl) hc4 ?_
      obtain ⟨_, g6, h⟩ := bnd h
      refine bnd_i (bz_i g6 l32_1) ?_
      exact retp_i l32_1 h
set_option maxRecDepth 20000 in
theorem i_X_isWithin {Xx0 : Int32} {Xx1 : Int32} {Xx2 : Int32} {x0 : Int} {x1 : Int} {x2 : Int} {r0 : Int} (h : di_X_isWithin x0 x1 x2 = some r0) (hx0 : Xx0 = Int32.ofInt x0) (hx1 : Xx1 = Int32.ofInt x1) (hx2 : Xx2 = Int32.ofInt x2) : dn_X_isWithin Xx0 Xx1 Xx2 = some (Int32.ofInt r0) := by
  subst hx0 hx1 hx2
  unfold di_X_isWithin at h
  unfold dn_X_isWithin
  obtain ⟨_, g1, h⟩ := bnd h
  obtain ⟨_, g2, h⟩ := bnd h
  by_cases hc3 : x0 < x1
  · have h := ite_t h hc3
    refine ite_gt (lt_i (x := x0) (y := x1) (rg_some g1) (rg_some g2) rfl rfl) hc3 ?_
    obtain ⟨_, g4, h⟩ := bnd h
    refine bnd_i (bz_i g4 l32_0) ?_
    exact retp_i l32_0 h
  · have h := ite_f h hc3
    refine ite_gf (lt_i (x := x0) (y := x1) (rg_some g1) (rg_some g2) rfl rfl) hc3 ?_
    obtain ⟨_, g5, h⟩ := bnd h
    by_cases hc6 : x2 < x0
    · have h := ite_t h hc6
      refine ite_gt (lt_i (x := x2) (y := x0) (rg_some g5) (rg_some g1) rfl rfl) hc6 ?_
      obtain ⟨_, g7, h⟩ := bnd h
      refine bnd_i (bz_i g7 l32_0) ?_
      exact retp_i l32_0 h
    · have h := ite_f h hc6
      refine ite_gf (lt_i (x := x2) (y := x0) (rg_some g5) (rg_some g1) rfl rfl) hc6 ?_
      obtain ⟨_, g8, h⟩ := bnd h
      refine bnd_i (bz_i g8 l32_1) ?_
      exact retp_i l32_1 h
set_option maxRecDepth 20000 in
theorem i_J_fillX7_5 {Kk20 : Mem → Option Mem} {k20 : MemI → Option MemI} {a0 : MemI}
    (hk20 : ∀ (y0 : MemI), k20 y0 = some a0 → Kk20 (EE y0) = some (EE a0)) :
    ∀ (n : Nat) {Xx1 : Int32} {Xx2 : Int32} {Xx3 : Int32} {x0 : Nat} {x1 : Int} {x2 : Int} {x3 : Int} {z : MemI}, di_J_fillX7_5 k20 n x0 x1 x2 x3 z = some a0 → Xx1 = Int32.ofInt x1 → Xx2 = Int32.ofInt x2 → Xx3 = Int32.ofInt x3 → dn_J_fillX7_5 Kk20 n x0 Xx1 Xx2 Xx3 (EE z) = some (EE a0) := by
  intro n
  induction n with
  | zero =>
    intro Xx1 Xx2 Xx3 x0 x1 x2 x3 z h hx1 hx2 hx3
    cases h
  | succ n ih =>
    intro Xx1 Xx2 Xx3 x0 x1 x2 x3 z h hx1 hx2 hx3
    subst hx1 hx2 hx3
    rw [di_J_fillX7_5] at h
    rw [dn_J_fillX7_5]
    obtain ⟨_, g1, h⟩ := bnd h
    obtain ⟨_, g2, h⟩ := bnd h
    by_cases hc3 : x3 ≤ x2
    · have h := ite_t h hc3
      refine ite_gt (le_i (x := x3) (y := x2) (rg_some g1) (rg_some g2) rfl rfl) hc3 ?_
      exact hk20 _ h 
    · have h := ite_f h hc3
      refine ite_gf (le_i (x := x3) (y := x2) (rg_some g1) (rg_some g2) rfl rfl) hc3 ?_
      obtain ⟨j1, ej1, h⟩ := bnd h
      refine bnd_i (aix_i (by decide) ej1 rfl) ?_
      obtain ⟨z2, ez2, h⟩ := stN_o h
      refine stM_i (pI_i ez2 rfl) ?_
      exact ih h rfl (hAdd rfl l32_1) rfl
set_option maxRecDepth 20000 in
theorem i_J_fillX7 {Xx1 : Int32} {x0 : Nat} {x1 : Int} {z : MemI} {a0 : MemI} (h : di_J_fillX7 x0 x1 z = some a0) (hx1 : Xx1 = Int32.ofInt x1) : dn_J_fillX7 x0 Xx1 (EE z) = some (EE a0) := by
  subst hx1
  unfold di_J_fillX7 at h
  unfold dn_J_fillX7
  refine i_J_fillX7_5 (fun z3 h  => ?_) FU h rfl l32_0 l32_6
  · exact retv_i h
set_option maxRecDepth 20000 in
theorem i_P_lay {Xx1 : Int32} {Xx2 : Int32} {Xx3 : Int32} {Xx4 : Int32} {Xx5 : Int32} {x0 : Nat} {x1 : Int} {x2 : Int} {x3 : Int} {x4 : Int} {x5 : Int} {z : MemI} {a0 : MemI} (h : di_P_lay x0 x1 x2 x3 x4 x5 z = some a0) (hx1 : Xx1 = Int32.ofInt x1) (hx2 : Xx2 = Int32.ofInt x2) (hx3 : Xx3 = Int32.ofInt x3) (hx4 : Xx4 = Int32.ofInt x4) (hx5 : Xx5 = Int32.ofInt x5) : dn_P_lay x0 Xx1 Xx2 Xx3 Xx4 Xx5 (EE z) = some (EE a0) := by
  subst hx1 hx2 hx3 hx4 hx5
  unfold di_P_lay at h
  unfold dn_P_lay
  obtain ⟨z1, ez1, h⟩ := stN_o h
  refine stM_i (pI_i ez1 rfl) ?_
  obtain ⟨z2, ez2, h⟩ := stN_o h
  refine stM_i (pI_i ez2 rfl) ?_
  obtain ⟨z3, ez3, h⟩ := stN_o h
  refine stM_i (pI_i ez3 rfl) ?_
  obtain ⟨z4, ez4, h⟩ := stN_o h
  refine stM_i (pI_i ez4 rfl) ?_
  obtain ⟨z5, ez5, h⟩ := stN_o h
  refine stM_i (pI_i ez5 rfl) ?_
  obtain ⟨z6, ez6, h⟩ := stN_o h
  refine stM_i (pI_i ez6 l32_8) ?_
  obtain ⟨z7, ez7, h⟩ := stN_o h
  refine stM_i (pI_i ez7 l32_4) ?_
  obtain ⟨z8, ez8, h⟩ := stN_o h
  refine stM_i (pI_i ez8 l32_m1) ?_
  obtain ⟨z9, ez9, h⟩ := stN_o h
  refine stM_i (pI_i ez9 l32_0) ?_
  obtain ⟨z10, ez10, h⟩ := stN_o h
  refine stM_i (pI_i ez10 l32_0) ?_
  obtain ⟨_, g1, h⟩ := bnd h
  refine bnd_i (bz_i g1 l32_0) ?_
  obtain ⟨z12, ez12, h⟩ := stN_o h
  refine stM_i (pI_i ez12 l32_0) ?_
  obtain ⟨z13, ez13, h⟩ := bnd h
  refine bnd_i (i_J_fillX7 ez13 l32_0) ?_
  exact retv_i h
set_option maxRecDepth 20000 in
theorem i_X_shortenOver_13 {Kk119 : Int32 → Int32 → Int32 → Int32 → Mem → Option Mem} {k119 : Int → Int → Int → Int → MemI → Option MemI} {a0 : MemI}
    (hk119 : ∀ (Xy0 : Int32) (Xy1 : Int32) (Xy2 : Int32) (Xy3 : Int32) (y0 : Int) (y1 : Int) (y2 : Int) (y3 : Int) (y4 : MemI), k119 y0 y1 y2 y3 y4 = some a0 → Xy0 = Int32.ofInt y0 → Xy1 = Int32.ofInt y1 → Xy2 = Int32.ofInt y2 → Xy3 = Int32.ofInt y3 → Kk119 Xy0 Xy1 Xy2 Xy3 (EE y4) = some (EE a0)) :
    ∀ (n : Nat) {Xx1 : Int32} {Xx2 : Int32} {Xx3 : Int32} {Xx4 : Int32} {Xx5 : Int32} {x1 : Int} {x2 : Int} {x3 : Int} {x4 : Int} {x5 : Int} {z : MemI}, di_X_shortenOver_13 k119 n x1 x2 x3 x4 x5 z = some a0 → Xx1 = Int32.ofInt x1 → Xx2 = Int32.ofInt x2 → Xx3 = Int32.ofInt x3 → Xx4 = Int32.ofInt x4 → Xx5 = Int32.ofInt x5 → dn_X_shortenOver_13 Kk119 n Xx1 Xx2 Xx3 Xx4 Xx5 (EE z) = some (EE a0) := by
  intro n
  induction n with
  | zero =>
    intro Xx1 Xx2 Xx3 Xx4 Xx5 x1 x2 x3 x4 x5 z h hx1 hx2 hx3 hx4 hx5
    cases h
  | succ n ih =>
    intro Xx1 Xx2 Xx3 Xx4 Xx5 x1 x2 x3 x4 x5 z h hx1 hx2 hx3 hx4 hx5
    subst hx1 hx2 hx3 hx4 hx5
    rw [di_X_shortenOver_13] at h
    rw [dn_X_shortenOver_13]
    obtain ⟨_, g1, h⟩ := bnd h
    by_cases hc2 : (8 : Int) ≤ x5
    · have h := ite_t h hc2
      refine ite_gt (le_i (x := (8 : Int)) (y := x5) (by decide) (rg_some g1) l32_8 rfl) hc2 ?_
      exact hk119 _ _ _ _ _ _ _ _ _ h rfl rfl rfl rfl
    · have h := ite_f h hc2
      refine ite_gf (le_i (x := (8 : Int)) (y := x5) (by decide) (rg_some g1) l32_8 rfl) hc2 ?_
      obtain ⟨j1, ej1, h⟩ := bnd h
      refine bnd_i (aix_i (by decide) ej1 rfl) ?_
      obtain ⟨j2, ej2, h⟩ := bnd h
      refine bnd_i (aix_i (by decide) ej2 rfl) ?_
      obtain ⟨_, g3, h⟩ := bnd h
      by_cases hc4 : (z.1 2 j1 j2) = (-1 : Int)
      · have h := ite_t h hc4
        refine ite_gt (eq_i (x := (z.1 2 j1 j2)) (y := (-1 : Int)) (rg_some g3) (by decide) rfl l32_m1) hc4 ?_
        exact ih h rfl rfl rfl rfl (hAdd rfl l32_1)
      · have h := ite_f h hc4
        refine ite_gf (eq_i (x := (z.1 2 j1 j2)) (y := (-1 : Int)) (rg_some g3) (by decide) rfl l32_m1) hc4 ?_
        obtain ⟨j3, ej3, h⟩ := bnd h
        refine bnd_i (aix_i (by decide) ej3 rfl) ?_
        obtain ⟨j4, ej4, h⟩ := bnd h
        refine bnd_i (aix_i (by decide) ej4 rfl) ?_
        obtain ⟨_, g5, h⟩ := bnd h
        by_cases hc6 : (z.1 2 j3 j4) = (-1 : Int)
        · have h := ite_t h hc6
          refine ite_gt (eq_i (x := (z.1 2 j3 j4)) (y := (-1 : Int)) (rg_some g5) (by decide) rfl l32_m1) hc6 ?_
          exact ih h rfl rfl rfl rfl (hAdd rfl l32_1)
        · have h := ite_f h hc6
          refine ite_gf (eq_i (x := (z.1 2 j3 j4)) (y := (-1 : Int)) (rg_some g5) (by decide) rfl l32_m1) hc6 ?_
          obtain ⟨j5, ej5, h⟩ := bnd h
          refine bnd_i (aix_i (by decide) ej5 rfl) ?_
          obtain ⟨j6, ej6, h⟩ := bnd h
          refine bnd_i (aix_i (by decide) ej6 rfl) ?_
          obtain ⟨j7, ej7, h⟩ := bnd h
          refine bnd_i (aix_i (by decide) ej7 rfl) ?_
          obtain ⟨j8, ej8, h⟩ := bnd h
          refine bnd_i (aix_i (by decide) ej8 rfl) ?_
          obtain ⟨v9, ev9, h⟩ := stW_o h
          refine stV_i (hEq ev9 (hAdd (hAdd rfl rfl) rfl)) ?_
          obtain ⟨j10, ej10, h⟩ := bnd h
          refine bnd_i (aix_i (by decide) ej10 rfl) ?_
          obtain ⟨j11, ej11, h⟩ := bnd h
          refine bnd_i (aix_i (by decide) ej11 rfl) ?_
          obtain ⟨_, g7, h⟩ := bnd h
          by_cases hc8 : (z.1 2 j10 j11) = (-1 : Int)
          · have h := ite_t h hc8
            refine ite_gt (eq_i (x := (z.1 2 j10 j11)) (y := (-1 : Int)) (rg_some g7) (by decide) rfl l32_m1) hc8 ?_
            obtain ⟨j12, ej12, h⟩ := bnd h
            refine bnd_i (aix_i (by decide) ej12 rfl) ?_
            obtain ⟨j13, ej13, h⟩ := bnd h
            refine bnd_i (aix_i (by decide) ej13 rfl) ?_
            obtain ⟨z14, ez14, h⟩ := stN_o h
            refine stM_i (pI_i ez14 rfl) ?_
            exact ih h rfl rfl rfl rfl (hAdd rfl l32_1)
          · have h := ite_f h hc8
            refine ite_gf (eq_i (x := (z.1 2 j10 j11)) (y := (-1 : Int)) (rg_some g7) (by decide) rfl l32_m1) hc8 ?_
            obtain ⟨j15, ej15, h⟩ := bnd h
            refine bnd_i (aix_i (by decide) ej15 rfl) ?_
            obtain ⟨j16, ej16, h⟩ := bnd h
            refine bnd_i (aix_i (by decide) ej16 rfl) ?_
            obtain ⟨_, g9, h⟩ := bnd h
            obtain ⟨_, g10, h⟩ := bnd h
            by_cases hc11 : (z.1 2 j15 j16) ≤ v9
            · have h := ite_t h hc11
              refine ite_gt (le_i (x := (z.1 2 j15 j16)) (y := v9) (rg_some g9) (rg_some g10) rfl rfl) hc11 ?_
              exact ih h rfl rfl rfl rfl (hAdd rfl l32_1)
            · have h := ite_f h hc11
              refine ite_gf (le_i (x := (z.1 2 j15 j16)) (y := v9) (rg_some g9) (rg_some g10) rfl rfl) hc11 ?_
              obtain ⟨j17, ej17, h⟩ := bnd h
              refine bnd_i (aix_i (by decide) ej17 rfl) ?_
              obtain ⟨j18, ej18, h⟩ := bnd h
              refine bnd_i (aix_i (by decide) ej18 rfl) ?_
              obtain ⟨z19, ez19, h⟩ := stN_o h
              refine stM_i (pI_i ez19 rfl) ?_
              exact ih h rfl rfl rfl rfl (hAdd rfl l32_1)
set_option maxRecDepth 20000 in
theorem i_X_shortenOver_3 {Kk125 : Mem → Option Mem} {k125 : MemI → Option MemI} {a0 : MemI}
    (hk125 : ∀ (y0 : MemI), k125 y0 = some a0 → Kk125 (EE y0) = some (EE a0)) :
    ∀ (n : Nat) {Xx1 : Int32} {Xx2 : Int32} {Xx3 : Int32} {Xx4 : Int32} {x1 : Int} {x2 : Int} {x3 : Int} {x4 : Int} {z : MemI}, di_X_shortenOver_3 k125 n x1 x2 x3 x4 z = some a0 → Xx1 = Int32.ofInt x1 → Xx2 = Int32.ofInt x2 → Xx3 = Int32.ofInt x3 → Xx4 = Int32.ofInt x4 → dn_X_shortenOver_3 Kk125 n Xx1 Xx2 Xx3 Xx4 (EE z) = some (EE a0) := by
  intro n
  induction n with
  | zero =>
    intro Xx1 Xx2 Xx3 Xx4 x1 x2 x3 x4 z h hx1 hx2 hx3 hx4
    cases h
  | succ n ih =>
    intro Xx1 Xx2 Xx3 Xx4 x1 x2 x3 x4 z h hx1 hx2 hx3 hx4
    subst hx1 hx2 hx3 hx4
    rw [di_X_shortenOver_3] at h
    rw [dn_X_shortenOver_3]
    obtain ⟨_, g1, h⟩ := bnd h
    by_cases hc2 : (8 : Int) ≤ x4
    · have h := ite_t h hc2
      refine ite_gt (le_i (x := (8 : Int)) (y := x4) (by decide) (rg_some g1) l32_8 rfl) hc2 ?_
      exact hk125 _ h 
    · have h := ite_f h hc2
      refine ite_gf (le_i (x := (8 : Int)) (y := x4) (by decide) (rg_some g1) l32_8 rfl) hc2 ?_
      refine i_X_shortenOver_13 (fun Xx1 Xx2 Xx3 Xx4 x1 x2 x3 x4 z20 h hx1 hx2 hx3 hx4 => ?_) FU h rfl rfl rfl rfl l32_0
      · subst hx1 hx2 hx3 hx4
        exact ih h rfl rfl rfl (hAdd rfl l32_1)
set_option maxRecDepth 20000 in
theorem i_X_shortenOver {Xx1 : Int32} {Xx2 : Int32} {Xx3 : Int32} {x1 : Int} {x2 : Int} {x3 : Int} {z : MemI} {a0 : MemI} (h : di_X_shortenOver x1 x2 x3 z = some a0) (hx1 : Xx1 = Int32.ofInt x1) (hx2 : Xx2 = Int32.ofInt x2) (hx3 : Xx3 = Int32.ofInt x3) : dn_X_shortenOver Xx1 Xx2 Xx3 (EE z) = some (EE a0) := by
  subst hx1 hx2 hx3
  unfold di_X_shortenOver at h
  unfold dn_X_shortenOver
  refine i_X_shortenOver_3 (fun z21 h  => ?_) FU h rfl rfl rfl l32_0
  · exact retv_i h
set_option maxRecDepth 20000 in
theorem i_X_link {Xx1 : Int32} {Xx2 : Int32} {Xx3 : Int32} {Xx4 : Int32} {Xx5 : Int32} {x1 : Int} {x2 : Int} {x3 : Int} {x4 : Int} {x5 : Int} {z : MemI} {r0 : Int} {a0 : MemI} (h : di_X_link x1 x2 x3 x4 x5 z = some (r0, a0)) (hx1 : Xx1 = Int32.ofInt x1) (hx2 : Xx2 = Int32.ofInt x2) (hx3 : Xx3 = Int32.ofInt x3) (hx4 : Xx4 = Int32.ofInt x4) (hx5 : Xx5 = Int32.ofInt x5) : dn_X_link Xx1 Xx2 Xx3 Xx4 Xx5 (EE z) = some (Int32.ofInt r0, EE a0) := by
  subst hx1 hx2 hx3 hx4 hx5
  unfold di_X_link at h
  unfold dn_X_link
  obtain ⟨_, g1, h⟩ := bnd h
  by_cases hc2 : (z.1 0 0 9) = (0 : Int)
  · have h := ite_t h hc2
    refine ite_gt (eq_i (x := (z.1 0 0 9)) (y := (0 : Int)) (rg_some g1) (by decide) rfl l32_0) hc2 ?_
    obtain ⟨_, g3, h⟩ := bnd h
    by_cases hc4 : (12 : Int) ≤ (z.1 0 0 6)
    · have h := ite_t h hc4
      refine ite_gt (le_i (x := (12 : Int)) (y := (z.1 0 0 6)) (by decide) (rg_some g3) l32_12 rfl) hc4 ?_
      exact ret_i l32_m1 h
    · have h := ite_f h hc4
      refine ite_gf (le_i (x := (12 : Int)) (y := (z.1 0 0 6)) (by decide) (rg_some g3) l32_12 rfl) hc4 ?_
      obtain ⟨v1, ev1, h⟩ := bnd h
      refine bnd_i (i_X_isNode ev1 rfl) ?_
      obtain ⟨_, g5, h⟩ := bnd h
      by_cases hc6 : v1 = (0 : Int)
      · have h := ite_t h hc6
        refine ite_gt (eq_i (x := v1) (y := (0 : Int)) (rg_some g5) (by decide) rfl l32_0) hc6 ?_
        exact ret_i l32_m1 h
      · have h := ite_f h hc6
        refine ite_gf (eq_i (x := v1) (y := (0 : Int)) (rg_some g5) (by decide) rfl l32_0) hc6 ?_
        obtain ⟨v2, ev2, h⟩ := bnd h
        refine bnd_i (i_X_isNode ev2 rfl) ?_
        obtain ⟨_, g7, h⟩ := bnd h
        by_cases hc8 : v2 = (0 : Int)
        · have h := ite_t h hc8
          refine ite_gt (eq_i (x := v2) (y := (0 : Int)) (rg_some g7) (by decide) rfl l32_0) hc8 ?_
          exact ret_i l32_m1 h
        · have h := ite_f h hc8
          refine ite_gf (eq_i (x := v2) (y := (0 : Int)) (rg_some g7) (by decide) rfl l32_0) hc8 ?_
          obtain ⟨_, g9, h⟩ := bnd h
          obtain ⟨_, g10, h⟩ := bnd h
          by_cases hc11 : x1 = x2
          · have h := ite_t h hc11
            refine ite_gt (eq_i (x := x1) (y := x2) (rg_some g9) (rg_some g10) rfl rfl) hc11 ?_
            exact ret_i l32_m1 h
          · have h := ite_f h hc11
            refine ite_gf (eq_i (x := x1) (y := x2) (rg_some g9) (rg_some g10) rfl rfl) hc11 ?_
            obtain ⟨v3, ev3, h⟩ := bnd h
            refine bnd_i (i_X_isWithin ev3 rfl l32_1 l32_100) ?_
            obtain ⟨_, g12, h⟩ := bnd h
            by_cases hc13 : v3 = (0 : Int)
            · have h := ite_t h hc13
              refine ite_gt (eq_i (x := v3) (y := (0 : Int)) (rg_some g12) (by decide) rfl l32_0) hc13 ?_
              exact ret_i l32_m1 h
            · have h := ite_f h hc13
              refine ite_gf (eq_i (x := v3) (y := (0 : Int)) (rg_some g12) (by decide) rfl l32_0) hc13 ?_
              obtain ⟨v4, ev4, h⟩ := bnd h
              refine bnd_i (i_X_isWithin ev4 rfl l32_1 l32_16) ?_
              obtain ⟨_, g14, h⟩ := bnd h
              by_cases hc15 : v4 = (0 : Int)
              · have h := ite_t h hc15
                refine ite_gt (eq_i (x := v4) (y := (0 : Int)) (rg_some g14) (by decide) rfl l32_0) hc15 ?_
                exact ret_i l32_m1 h
              · have h := ite_f h hc15
                refine ite_gf (eq_i (x := v4) (y := (0 : Int)) (rg_some g14) (by decide) rfl l32_0) hc15 ?_
                obtain ⟨v5, ev5, h⟩ := bnd h
                refine bnd_i (i_X_isWithin ev5 rfl l32_0 l32_40) ?_
                obtain ⟨_, g16, h⟩ := bnd h
                by_cases hc17 : v5 = (0 : Int)
                · have h := ite_t h hc17
                  refine ite_gt (eq_i (x := v5) (y := (0 : Int)) (rg_some g16) (by decide) rfl l32_0) hc17 ?_
                  exact ret_i l32_m1 h
                · have h := ite_f h hc17
                  refine ite_gf (eq_i (x := v5) (y := (0 : Int)) (rg_some g16) (by decide) rfl l32_0) hc17 ?_
                  obtain ⟨j6, ej6, h⟩ := bnd h
                  refine bnd_i (aix_i (by decide) ej6 (hMul l32_2 rfl)) ?_
                  obtain ⟨z7, ez7, h⟩ := bnd h
                  refine bnd_i (i_P_lay ez7 rfl rfl rfl rfl rfl) ?_
                  obtain ⟨j8, ej8, h⟩ := bnd h
                  refine bnd_i (aix_i (by decide) ej8 (hAdd (hMul l32_2 rfl) l32_1)) ?_
                  obtain ⟨z9, ez9, h⟩ := bnd h
                  refine bnd_i (i_P_lay ez9 rfl rfl rfl rfl rfl) ?_
                  obtain ⟨z10, ez10, h⟩ := stN_o h
                  refine stM_i (pI_i ez10 (hAdd rfl l32_1)) ?_
                  obtain ⟨z11, ez11, h⟩ := bnd h
                  refine bnd_i (i_X_shortenOver ez11 rfl rfl rfl) ?_
                  obtain ⟨z12, ez12, h⟩ := bnd h
                  refine bnd_i (i_X_shortenOver ez12 rfl rfl rfl) ?_
                  exact ret_i rfl h
  · have h := ite_f h hc2
    refine ite_gf (eq_i (x := (z.1 0 0 9)) (y := (0 : Int)) (rg_some g1) (by decide) rfl l32_0) hc2 ?_
    exact ret_i l32_m1 h
set_option maxRecDepth 20000 in
theorem i_X_isPort {Xx1 : Int32} {x1 : Int} {z : MemI} {r0 : Int} {a0 : MemI} (h : di_X_isPort x1 z = some (r0, a0)) (hx1 : Xx1 = Int32.ofInt x1) : dn_X_isPort Xx1 (EE z) = some (Int32.ofInt r0, EE a0) := by
  subst hx1
  unfold di_X_isPort at h
  unfold dn_X_isPort
  obtain ⟨v1, ev1, h⟩ := bnd h
  refine bnd_i (i_X_isWithin ev1 rfl l32_0 (hSub (hMul l32_2 rfl) l32_1)) ?_
  obtain ⟨_, g1, h⟩ := bnd h
  refine bnd_i (bz_i g1 rfl) ?_
  exact ret_i rfl h
set_option maxRecDepth 20000 in
theorem i_X_shape {Xx1 : Int32} {Xx2 : Int32} {Xx3 : Int32} {x1 : Int} {x2 : Int} {x3 : Int} {z : MemI} {r0 : Int} {a0 : MemI} (h : di_X_shape x1 x2 x3 z = some (r0, a0)) (hx1 : Xx1 = Int32.ofInt x1) (hx2 : Xx2 = Int32.ofInt x2) (hx3 : Xx3 = Int32.ofInt x3) : dn_X_shape Xx1 Xx2 Xx3 (EE z) = some (Int32.ofInt r0, EE a0) := by
  subst hx1 hx2 hx3
  unfold di_X_shape at h
  unfold dn_X_shape
  obtain ⟨_, g1, h⟩ := bnd h
  by_cases hc2 : (z.1 0 0 9) = (0 : Int)
  · have h := ite_t h hc2
    refine ite_gt (eq_i (x := (z.1 0 0 9)) (y := (0 : Int)) (rg_some g1) (by decide) rfl l32_0) hc2 ?_
    obtain ⟨⟨v2, z2⟩, er2, h⟩ := bnd h
    refine bnd_i (i_X_isPort er2 rfl) ?_
    obtain ⟨_, g3, h⟩ := bnd h
    by_cases hc4 : v2 = (0 : Int)
    · have h := ite_t h hc4
      refine ite_gt (eq_i (x := v2) (y := (0 : Int)) (rg_some g3) (by decide) rfl l32_0) hc4 ?_
      obtain ⟨_, g5, h⟩ := bnd h
      refine bnd_i (bz_i g5 l32_0) ?_
      exact ret_i l32_0 h
    · have h := ite_f h hc4
      refine ite_gf (eq_i (x := v2) (y := (0 : Int)) (rg_some g3) (by decide) rfl l32_0) hc4 ?_
      obtain ⟨v4, ev4, h⟩ := bnd h
      refine bnd_i (i_X_isWithin ev4 rfl l32_1 l32_16) ?_
      obtain ⟨_, g6, h⟩ := bnd h
      by_cases hc7 : v4 = (0 : Int)
      · have h := ite_t h hc7
        refine ite_gt (eq_i (x := v4) (y := (0 : Int)) (rg_some g6) (by decide) rfl l32_0) hc7 ?_
        obtain ⟨_, g8, h⟩ := bnd h
        refine bnd_i (bz_i g8 l32_0) ?_
        exact ret_i l32_0 h
      · have h := ite_f h hc7
        refine ite_gf (eq_i (x := v4) (y := (0 : Int)) (rg_some g6) (by decide) rfl l32_0) hc7 ?_
        obtain ⟨v6, ev6, h⟩ := bnd h
        refine bnd_i (i_X_isWithin ev6 rfl l32_1 l32_8) ?_
        obtain ⟨_, g9, h⟩ := bnd h
        by_cases hc10 : v6 = (0 : Int)
        · have h := ite_t h hc10
          refine ite_gt (eq_i (x := v6) (y := (0 : Int)) (rg_some g9) (by decide) rfl l32_0) hc10 ?_
          obtain ⟨_, g11, h⟩ := bnd h
          refine bnd_i (bz_i g11 l32_0) ?_
          exact ret_i l32_0 h
        · have h := ite_f h hc10
          refine ite_gf (eq_i (x := v6) (y := (0 : Int)) (rg_some g9) (by decide) rfl l32_0) hc10 ?_
          obtain ⟨j7, ej7, h⟩ := bnd h
          refine bnd_i (aix_i (by decide) ej7 rfl) ?_
          obtain ⟨z8, ez8, h⟩ := stN_o h
          refine stM_i (pI_i ez8 rfl) ?_
          obtain ⟨j9, ej9, h⟩ := bnd h
          refine bnd_i (aix_i (by decide) ej9 rfl) ?_
          obtain ⟨z10, ez10, h⟩ := stN_o h
          refine stM_i (pI_i ez10 rfl) ?_
          obtain ⟨_, g12, h⟩ := bnd h
          refine bnd_i (bz_i g12 l32_1) ?_
          exact ret_i l32_1 h
  · have h := ite_f h hc2
    refine ite_gf (eq_i (x := (z.1 0 0 9)) (y := (0 : Int)) (rg_some g1) (by decide) rfl l32_0) hc2 ?_
    obtain ⟨_, g13, h⟩ := bnd h
    refine bnd_i (bz_i g13 l32_0) ?_
    exact ret_i l32_0 h
set_option maxRecDepth 20000 in
theorem i_F_found {Xx1 : Int32} {Xx2 : Int32} {Xx3 : Int32} {Xx4 : Int32} {x0 : Nat} {x1 : Int} {x2 : Int} {x3 : Int} {x4 : Int} {z : MemI} {a0 : MemI} (h : di_F_found x0 x1 x2 x3 x4 z = some a0) (hx1 : Xx1 = Int32.ofInt x1) (hx2 : Xx2 = Int32.ofInt x2) (hx3 : Xx3 = Int32.ofInt x3) (hx4 : Xx4 = Int32.ofInt x4) : dn_F_found x0 Xx1 Xx2 Xx3 Xx4 (EE z) = some (EE a0) := by
  subst hx1 hx2 hx3 hx4
  unfold di_F_found at h
  unfold dn_F_found
  obtain ⟨z1, ez1, h⟩ := stN_o h
  refine stM_i (pI_i ez1 rfl) ?_
  obtain ⟨z2, ez2, h⟩ := stN_o h
  refine stM_i (pI_i ez2 rfl) ?_
  obtain ⟨z3, ez3, h⟩ := stN_o h
  refine stM_i (pI_i ez3 rfl) ?_
  obtain ⟨z4, ez4, h⟩ := stN_o h
  refine stM_i (pI_i ez4 rfl) ?_
  obtain ⟨z5, ez5, h⟩ := stN_o h
  refine stM_i (pI_i ez5 l32_4) ?_
  obtain ⟨z6, ez6, h⟩ := stN_o h
  refine stM_i (pI_i ez6 l32_100) ?_
  obtain ⟨z7, ez7, h⟩ := stN_o h
  refine stM_i (pI_i ez7 l32_0) ?_
  obtain ⟨z8, ez8, h⟩ := stN_o h
  refine stM_i (pI_i ez8 l32_0) ?_
  obtain ⟨z9, ez9, h⟩ := stN_o h
  refine stM_i (pI_i ez9 l32_0) ?_
  obtain ⟨z10, ez10, h⟩ := stN_o h
  refine stM_i (pI_i ez10 l32_0) ?_
  obtain ⟨z11, ez11, h⟩ := stN_o h
  refine stM_i (pI_i ez11 l32_0) ?_
  obtain ⟨z12, ez12, h⟩ := stN_o h
  refine stM_i (pI_i ez12 l32_0) ?_
  obtain ⟨z13, ez13, h⟩ := stN_o h
  refine stM_i (pI_i ez13 l32_0) ?_
  obtain ⟨z14, ez14, h⟩ := stN_o h
  refine stM_i (pI_i ez14 l32_0) ?_
  exact retv_i h
set_option maxRecDepth 20000 in
theorem i_X_flow {Xx1 : Int32} {Xx2 : Int32} {Xx3 : Int32} {Xx4 : Int32} {x1 : Int} {x2 : Int} {x3 : Int} {x4 : Int} {z : MemI} {r0 : Int} {a0 : MemI} (h : di_X_flow x1 x2 x3 x4 z = some (r0, a0)) (hx1 : Xx1 = Int32.ofInt x1) (hx2 : Xx2 = Int32.ofInt x2) (hx3 : Xx3 = Int32.ofInt x3) (hx4 : Xx4 = Int32.ofInt x4) : dn_X_flow Xx1 Xx2 Xx3 Xx4 (EE z) = some (Int32.ofInt r0, EE a0) := by
  subst hx1 hx2 hx3 hx4
  unfold di_X_flow at h
  unfold dn_X_flow
  obtain ⟨_, g1, h⟩ := bnd h
  by_cases hc2 : (z.1 0 0 9) = (0 : Int)
  · have h := ite_t h hc2
    refine ite_gt (eq_i (x := (z.1 0 0 9)) (y := (0 : Int)) (rg_some g1) (by decide) rfl l32_0) hc2 ?_
    obtain ⟨_, g3, h⟩ := bnd h
    by_cases hc4 : (6 : Int) ≤ (z.1 0 0 7)
    · have h := ite_t h hc4
      refine ite_gt (le_i (x := (6 : Int)) (y := (z.1 0 0 7)) (by decide) (rg_some g3) l32_6 rfl) hc4 ?_
      exact ret_i l32_m1 h
    · have h := ite_f h hc4
      refine ite_gf (le_i (x := (6 : Int)) (y := (z.1 0 0 7)) (by decide) (rg_some g3) l32_6 rfl) hc4 ?_
      obtain ⟨v1, ev1, h⟩ := bnd h
      refine bnd_i (i_X_isNode ev1 rfl) ?_
      obtain ⟨_, g5, h⟩ := bnd h
      by_cases hc6 : v1 = (0 : Int)
      · have h := ite_t h hc6
        refine ite_gt (eq_i (x := v1) (y := (0 : Int)) (rg_some g5) (by decide) rfl l32_0) hc6 ?_
        exact ret_i l32_m1 h
      · have h := ite_f h hc6
        refine ite_gf (eq_i (x := v1) (y := (0 : Int)) (rg_some g5) (by decide) rfl l32_0) hc6 ?_
        obtain ⟨v2, ev2, h⟩ := bnd h
        refine bnd_i (i_X_isNode ev2 rfl) ?_
        obtain ⟨_, g7, h⟩ := bnd h
        by_cases hc8 : v2 = (0 : Int)
        · have h := ite_t h hc8
          refine ite_gt (eq_i (x := v2) (y := (0 : Int)) (rg_some g7) (by decide) rfl l32_0) hc8 ?_
          exact ret_i l32_m1 h
        · have h := ite_f h hc8
          refine ite_gf (eq_i (x := v2) (y := (0 : Int)) (rg_some g7) (by decide) rfl l32_0) hc8 ?_
          obtain ⟨_, g9, h⟩ := bnd h
          obtain ⟨_, g10, h⟩ := bnd h
          by_cases hc11 : x1 = x2
          · have h := ite_t h hc11
            refine ite_gt (eq_i (x := x1) (y := x2) (rg_some g9) (rg_some g10) rfl rfl) hc11 ?_
            exact ret_i l32_m1 h
          · have h := ite_f h hc11
            refine ite_gf (eq_i (x := x1) (y := x2) (rg_some g9) (rg_some g10) rfl rfl) hc11 ?_
            obtain ⟨v3, ev3, h⟩ := bnd h
            refine bnd_i (i_X_isWithin ev3 rfl l32_1 l32_100) ?_
            obtain ⟨_, g12, h⟩ := bnd h
            by_cases hc13 : v3 = (0 : Int)
            · have h := ite_t h hc13
              refine ite_gt (eq_i (x := v3) (y := (0 : Int)) (rg_some g12) (by decide) rfl l32_0) hc13 ?_
              exact ret_i l32_m1 h
            · have h := ite_f h hc13
              refine ite_gf (eq_i (x := v3) (y := (0 : Int)) (rg_some g12) (by decide) rfl l32_0) hc13 ?_
              obtain ⟨v4, ev4, h⟩ := bnd h
              refine bnd_i (i_X_isWithin ev4 rfl l32_1 l32_8) ?_
              obtain ⟨_, g14, h⟩ := bnd h
              by_cases hc15 : v4 = (0 : Int)
              · have h := ite_t h hc15
                refine ite_gt (eq_i (x := v4) (y := (0 : Int)) (rg_some g14) (by decide) rfl l32_0) hc15 ?_
                exact ret_i l32_m1 h
              · have h := ite_f h hc15
                refine ite_gf (eq_i (x := v4) (y := (0 : Int)) (rg_some g14) (by decide) rfl l32_0) hc15 ?_
                obtain ⟨j5, ej5, h⟩ := bnd h
                refine bnd_i (aix_i (by decide) ej5 rfl) ?_
                obtain ⟨z6, ez6, h⟩ := bnd h
                refine bnd_i (i_F_found ez6 rfl rfl rfl rfl) ?_
                obtain ⟨z7, ez7, h⟩ := stN_o h
                refine stM_i (pI_i ez7 (hAdd rfl l32_1)) ?_
                exact ret_i rfl h
  · have h := ite_f h hc2
    refine ite_gf (eq_i (x := (z.1 0 0 9)) (y := (0 : Int)) (rg_some g1) (by decide) rfl l32_0) hc2 ?_
    exact ret_i l32_m1 h
set_option maxRecDepth 20000 in
theorem i_X_isFlow {Xx1 : Int32} {x1 : Int} {z : MemI} {r0 : Int} {a0 : MemI} (h : di_X_isFlow x1 z = some (r0, a0)) (hx1 : Xx1 = Int32.ofInt x1) : dn_X_isFlow Xx1 (EE z) = some (Int32.ofInt r0, EE a0) := by
  subst hx1
  unfold di_X_isFlow at h
  unfold dn_X_isFlow
  obtain ⟨v1, ev1, h⟩ := bnd h
  refine bnd_i (i_X_isWithin ev1 rfl l32_0 (hSub rfl l32_1)) ?_
  obtain ⟨_, g1, h⟩ := bnd h
  refine bnd_i (bz_i g1 rfl) ?_
  exact ret_i rfl h
set_option maxRecDepth 20000 in
theorem i_X_tune {Xx1 : Int32} {Xx2 : Int32} {Xx3 : Int32} {Xx4 : Int32} {x1 : Int} {x2 : Int} {x3 : Int} {x4 : Int} {z : MemI} {r0 : Int} {a0 : MemI} (h : di_X_tune x1 x2 x3 x4 z = some (r0, a0)) (hx1 : Xx1 = Int32.ofInt x1) (hx2 : Xx2 = Int32.ofInt x2) (hx3 : Xx3 = Int32.ofInt x3) (hx4 : Xx4 = Int32.ofInt x4) : dn_X_tune Xx1 Xx2 Xx3 Xx4 (EE z) = some (Int32.ofInt r0, EE a0) := by
  subst hx1 hx2 hx3 hx4
  unfold di_X_tune at h
  unfold dn_X_tune
  obtain ⟨_, g1, h⟩ := bnd h
  by_cases hc2 : (z.1 0 0 9) = (0 : Int)
  · have h := ite_t h hc2
    refine ite_gt (eq_i (x := (z.1 0 0 9)) (y := (0 : Int)) (rg_some g1) (by decide) rfl l32_0) hc2 ?_
    obtain ⟨⟨v2, z2⟩, er2, h⟩ := bnd h
    refine bnd_i (i_X_isFlow er2 rfl) ?_
    obtain ⟨_, g3, h⟩ := bnd h
    by_cases hc4 : v2 = (0 : Int)
    · have h := ite_t h hc4
      refine ite_gt (eq_i (x := v2) (y := (0 : Int)) (rg_some g3) (by decide) rfl l32_0) hc4 ?_
      obtain ⟨_, g5, h⟩ := bnd h
      refine bnd_i (bz_i g5 l32_0) ?_
      exact ret_i l32_0 h
    · have h := ite_f h hc4
      refine ite_gf (eq_i (x := v2) (y := (0 : Int)) (rg_some g3) (by decide) rfl l32_0) hc4 ?_
      obtain ⟨v4, ev4, h⟩ := bnd h
      refine bnd_i (i_X_isWithin ev4 rfl l32_1 l32_8) ?_
      obtain ⟨_, g6, h⟩ := bnd h
      by_cases hc7 : v4 = (0 : Int)
      · have h := ite_t h hc7
        refine ite_gt (eq_i (x := v4) (y := (0 : Int)) (rg_some g6) (by decide) rfl l32_0) hc7 ?_
        obtain ⟨_, g8, h⟩ := bnd h
        refine bnd_i (bz_i g8 l32_0) ?_
        exact ret_i l32_0 h
      · have h := ite_f h hc7
        refine ite_gf (eq_i (x := v4) (y := (0 : Int)) (rg_some g6) (by decide) rfl l32_0) hc7 ?_
        obtain ⟨v5, ev5, h⟩ := bnd h
        refine bnd_i (i_X_isWithin ev5 rfl l32_1 l32_200) ?_
        obtain ⟨_, g9, h⟩ := bnd h
        by_cases hc10 : v5 = (0 : Int)
        · have h := ite_t h hc10
          refine ite_gt (eq_i (x := v5) (y := (0 : Int)) (rg_some g9) (by decide) rfl l32_0) hc10 ?_
          obtain ⟨_, g11, h⟩ := bnd h
          refine bnd_i (bz_i g11 l32_0) ?_
          exact ret_i l32_0 h
        · have h := ite_f h hc10
          refine ite_gf (eq_i (x := v5) (y := (0 : Int)) (rg_some g9) (by decide) rfl l32_0) hc10 ?_
          obtain ⟨v7, ev7, h⟩ := bnd h
          refine bnd_i (i_X_isWithin ev7 rfl l32_0 l32_1000) ?_
          obtain ⟨_, g12, h⟩ := bnd h
          by_cases hc13 : v7 = (0 : Int)
          · have h := ite_t h hc13
            refine ite_gt (eq_i (x := v7) (y := (0 : Int)) (rg_some g12) (by decide) rfl l32_0) hc13 ?_
            obtain ⟨_, g14, h⟩ := bnd h
            refine bnd_i (bz_i g14 l32_0) ?_
            exact ret_i l32_0 h
          · have h := ite_f h hc13
            refine ite_gf (eq_i (x := v7) (y := (0 : Int)) (rg_some g12) (by decide) rfl l32_0) hc13 ?_
            obtain ⟨j8, ej8, h⟩ := bnd h
            refine bnd_i (aix_i (by decide) ej8 rfl) ?_
            obtain ⟨z9, ez9, h⟩ := stN_o h
            refine stM_i (pI_i ez9 rfl) ?_
            obtain ⟨j10, ej10, h⟩ := bnd h
            refine bnd_i (aix_i (by decide) ej10 rfl) ?_
            obtain ⟨z11, ez11, h⟩ := stN_o h
            refine stM_i (pI_i ez11 rfl) ?_
            obtain ⟨j12, ej12, h⟩ := bnd h
            refine bnd_i (aix_i (by decide) ej12 rfl) ?_
            obtain ⟨z13, ez13, h⟩ := stN_o h
            refine stM_i (pI_i ez13 rfl) ?_
            obtain ⟨_, g15, h⟩ := bnd h
            refine bnd_i (bz_i g15 l32_1) ?_
            exact ret_i l32_1 h
  · have h := ite_f h hc2
    refine ite_gf (eq_i (x := (z.1 0 0 9)) (y := (0 : Int)) (rg_some g1) (by decide) rfl l32_0) hc2 ?_
    obtain ⟨_, g16, h⟩ := bnd h
    refine bnd_i (bz_i g16 l32_0) ?_
    exact ret_i l32_0 h
set_option maxRecDepth 20000 in
theorem i_J_fillX2_5 {Kk20 : Mem → Option Mem} {k20 : MemI → Option MemI} {a0 : MemI}
    (hk20 : ∀ (y0 : MemI), k20 y0 = some a0 → Kk20 (EE y0) = some (EE a0)) :
    ∀ (n : Nat) {Xx1 : Int32} {Xx2 : Int32} {Xx3 : Int32} {x0 : Nat} {x1 : Int} {x2 : Int} {x3 : Int} {z : MemI}, di_J_fillX2_5 k20 n x0 x1 x2 x3 z = some a0 → Xx1 = Int32.ofInt x1 → Xx2 = Int32.ofInt x2 → Xx3 = Int32.ofInt x3 → dn_J_fillX2_5 Kk20 n x0 Xx1 Xx2 Xx3 (EE z) = some (EE a0) := by
  intro n
  induction n with
  | zero =>
    intro Xx1 Xx2 Xx3 x0 x1 x2 x3 z h hx1 hx2 hx3
    cases h
  | succ n ih =>
    intro Xx1 Xx2 Xx3 x0 x1 x2 x3 z h hx1 hx2 hx3
    subst hx1 hx2 hx3
    rw [di_J_fillX2_5] at h
    rw [dn_J_fillX2_5]
    obtain ⟨_, g1, h⟩ := bnd h
    obtain ⟨_, g2, h⟩ := bnd h
    by_cases hc3 : x3 ≤ x2
    · have h := ite_t h hc3
      refine ite_gt (le_i (x := x3) (y := x2) (rg_some g1) (rg_some g2) rfl rfl) hc3 ?_
      exact hk20 _ h 
    · have h := ite_f h hc3
      refine ite_gf (le_i (x := x3) (y := x2) (rg_some g1) (rg_some g2) rfl rfl) hc3 ?_
      obtain ⟨j1, ej1, h⟩ := bnd h
      refine bnd_i (aix_i (by decide) ej1 rfl) ?_
      obtain ⟨z2, ez2, h⟩ := stN_o h
      refine stM_i (pI_i ez2 rfl) ?_
      exact ih h rfl (hAdd rfl l32_1) rfl
set_option maxRecDepth 20000 in
theorem i_J_fillX2 {Xx1 : Int32} {x0 : Nat} {x1 : Int} {z : MemI} {a0 : MemI} (h : di_J_fillX2 x0 x1 z = some a0) (hx1 : Xx1 = Int32.ofInt x1) : dn_J_fillX2 x0 Xx1 (EE z) = some (EE a0) := by
  subst hx1
  unfold di_J_fillX2 at h
  unfold dn_J_fillX2
  refine i_J_fillX2_5 (fun z3 h  => ?_) FU h rfl l32_0 l32_8
  · exact retv_i h
set_option maxRecDepth 20000 in
theorem i_J_fillX13_5 {Kk20 : Mem → Option Mem} {k20 : MemI → Option MemI} {a0 : MemI}
    (hk20 : ∀ (y0 : MemI), k20 y0 = some a0 → Kk20 (EE y0) = some (EE a0)) :
    ∀ (n : Nat) {Xx1 : Int32} {Xx2 : Int32} {Xx3 : Int32} {x1 : Int} {x2 : Int} {x3 : Int} {z : MemI}, di_J_fillX13_5 k20 n x1 x2 x3 z = some a0 → Xx1 = Int32.ofInt x1 → Xx2 = Int32.ofInt x2 → Xx3 = Int32.ofInt x3 → dn_J_fillX13_5 Kk20 n Xx1 Xx2 Xx3 (EE z) = some (EE a0) := by
  intro n
  induction n with
  | zero =>
    intro Xx1 Xx2 Xx3 x1 x2 x3 z h hx1 hx2 hx3
    cases h
  | succ n ih =>
    intro Xx1 Xx2 Xx3 x1 x2 x3 z h hx1 hx2 hx3
    subst hx1 hx2 hx3
    rw [di_J_fillX13_5] at h
    rw [dn_J_fillX13_5]
    obtain ⟨_, g1, h⟩ := bnd h
    obtain ⟨_, g2, h⟩ := bnd h
    by_cases hc3 : x3 ≤ x2
    · have h := ite_t h hc3
      refine ite_gt (le_i (x := x3) (y := x2) (rg_some g1) (rg_some g2) rfl rfl) hc3 ?_
      exact hk20 _ h 
    · have h := ite_f h hc3
      refine ite_gf (le_i (x := x3) (y := x2) (rg_some g1) (rg_some g2) rfl rfl) hc3 ?_
      obtain ⟨j1, ej1, h⟩ := bnd h
      refine bnd_i (aix_i (by decide) ej1 rfl) ?_
      obtain ⟨z2, ez2, h⟩ := stN_o h
      refine stM_i (pI_i ez2 rfl) ?_
      exact ih h rfl (hAdd rfl l32_1) rfl
set_option maxRecDepth 20000 in
theorem i_J_fillX13 {Xx1 : Int32} {x1 : Int} {z : MemI} {a0 : MemI} (h : di_J_fillX13 x1 z = some a0) (hx1 : Xx1 = Int32.ofInt x1) : dn_J_fillX13 Xx1 (EE z) = some (EE a0) := by
  subst hx1
  unfold di_J_fillX13 at h
  unfold dn_J_fillX13
  refine i_J_fillX13_5 (fun z3 h  => ?_) FU h rfl l32_0 l32_70
  · exact retv_i h
set_option maxRecDepth 20000 in
theorem i_A_unsetAll {z : MemI} {a0 : MemI} (h : di_A_unsetAll z = some a0)  : dn_A_unsetAll (EE z) = some (EE a0) := by
  unfold di_A_unsetAll at h
  unfold dn_A_unsetAll
  obtain ⟨z1, ez1, h⟩ := bnd h
  refine bnd_i (i_J_fillX13 ez1 l32_0) ?_
  obtain ⟨z2, ez2, h⟩ := stN_o h
  refine stM_i (pI_i ez2 l32_0) ?_
  exact retv_i h
set_option maxRecDepth 20000 in
theorem i_J_fillX16_6 {Kk22 : Mem → Option Mem} {k22 : MemI → Option MemI} {a0 : MemI}
    (hk22 : ∀ (y0 : MemI), k22 y0 = some a0 → Kk22 (EE y0) = some (EE a0)) :
    ∀ (n : Nat) {Xx1 : Int64} {Xx3 : Int32} {Xx4 : Int32} {x1 : Int} {x3 : Int} {x4 : Int} {z : MemI}, di_J_fillX16_6 k22 n x1 x3 x4 z = some a0 → Xx1 = Int64.ofInt x1 → Xx3 = Int32.ofInt x3 → Xx4 = Int32.ofInt x4 → dn_J_fillX16_6 Kk22 n Xx1 Xx3 Xx4 (EE z) = some (EE a0) := by
  intro n
  induction n with
  | zero =>
    intro Xx1 Xx3 Xx4 x1 x3 x4 z h hx1 hx3 hx4
    cases h
  | succ n ih =>
    intro Xx1 Xx3 Xx4 x1 x3 x4 z h hx1 hx3 hx4
    subst hx1 hx3 hx4
    rw [di_J_fillX16_6] at h
    rw [dn_J_fillX16_6]
    obtain ⟨_, g1, h⟩ := bnd h
    obtain ⟨_, g2, h⟩ := bnd h
    by_cases hc3 : x4 ≤ x3
    · have h := ite_t h hc3
      refine ite_gt (le_i (x := x4) (y := x3) (rg_some g1) (rg_some g2) rfl rfl) hc3 ?_
      exact hk22 _ h 
    · have h := ite_f h hc3
      refine ite_gf (le_i (x := x4) (y := x3) (rg_some g1) (rg_some g2) rfl rfl) hc3 ?_
      obtain ⟨j1, ej1, h⟩ := bnd h
      refine bnd_i (aix_i (by decide) ej1 rfl) ?_
      obtain ⟨z2, ez2, h⟩ := stN_o h
      refine stM_i (pL_i ez2 rfl) ?_
      exact ih h rfl (hAdd rfl l32_1) rfl
set_option maxRecDepth 20000 in
theorem i_J_fillX16 {Xx1 : Int64} {x1 : Int} {z : MemI} {a0 : MemI} (h : di_J_fillX16 x1 z = some a0) (hx1 : Xx1 = Int64.ofInt x1) : dn_J_fillX16 Xx1 (EE z) = some (EE a0) := by
  subst hx1
  unfold di_J_fillX16 at h
  unfold dn_J_fillX16
  refine i_J_fillX16_6 (fun z3 h  => ?_) FU h rfl l32_0 l32_16
  · exact retv_i h
set_option maxRecDepth 20000 in
theorem i_X_clear_22 {Kk53 : Mem → Option Mem} {k53 : MemI → Option MemI} {a0 : MemI}
    (hk53 : ∀ (y0 : MemI), k53 y0 = some a0 → Kk53 (EE y0) = some (EE a0)) :
    ∀ (n : Nat) {Xx1 : Int32} {x1 : Int} {z : MemI}, di_X_clear_22 k53 n x1 z = some a0 → Xx1 = Int32.ofInt x1 → dn_X_clear_22 Kk53 n Xx1 (EE z) = some (EE a0) := by
  intro n
  induction n with
  | zero =>
    intro Xx1 x1 z h hx1
    cases h
  | succ n ih =>
    intro Xx1 x1 z h hx1
    subst hx1
    rw [di_X_clear_22] at h
    rw [dn_X_clear_22]
    obtain ⟨_, g1, h⟩ := bnd h
    by_cases hc2 : (8 : Int) ≤ x1
    · have h := ite_t h hc2
      refine ite_gt (le_i (x := (8 : Int)) (y := x1) (by decide) (rg_some g1) l32_8 rfl) hc2 ?_
      exact hk53 _ h 
    · have h := ite_f h hc2
      refine ite_gf (le_i (x := (8 : Int)) (y := x1) (by decide) (rg_some g1) l32_8 rfl) hc2 ?_
      obtain ⟨j6, ej6, h⟩ := bnd h
      refine bnd_i (aix_i (by decide) ej6 rfl) ?_
      obtain ⟨z7, ez7, h⟩ := bnd h
      refine bnd_i (i_J_fillX2 ez7 l32_m1) ?_
      obtain ⟨j8, ej8, h⟩ := bnd h
      refine bnd_i (aix_i (by decide) ej8 rfl) ?_
      obtain ⟨j9, ej9, h⟩ := bnd h
      refine bnd_i (aix_i (by decide) ej9 rfl) ?_
      obtain ⟨z10, ez10, h⟩ := stN_o h
      refine stM_i (pI_i ez10 l32_0) ?_
      exact ih h (hAdd rfl l32_1)
set_option maxRecDepth 20000 in
theorem i_X_clear_55 {Kk77 : Mem → Option Mem} {k77 : MemI → Option MemI} {a0 : MemI}
    (hk77 : ∀ (y0 : MemI), k77 y0 = some a0 → Kk77 (EE y0) = some (EE a0)) :
    ∀ (n : Nat) {Xx1 : Int32} {x1 : Int} {z : MemI}, di_X_clear_55 k77 n x1 z = some a0 → Xx1 = Int32.ofInt x1 → dn_X_clear_55 Kk77 n Xx1 (EE z) = some (EE a0) := by
  intro n
  induction n with
  | zero =>
    intro Xx1 x1 z h hx1
    cases h
  | succ n ih =>
    intro Xx1 x1 z h hx1
    subst hx1
    rw [di_X_clear_55] at h
    rw [dn_X_clear_55]
    obtain ⟨_, g1, h⟩ := bnd h
    by_cases hc2 : (64 : Int) ≤ x1
    · have h := ite_t h hc2
      refine ite_gt (le_i (x := (64 : Int)) (y := x1) (by decide) (rg_some g1) l32_64 rfl) hc2 ?_
      exact hk77 _ h 
    · have h := ite_f h hc2
      refine ite_gf (le_i (x := (64 : Int)) (y := x1) (by decide) (rg_some g1) l32_64 rfl) hc2 ?_
      obtain ⟨j12, ej12, h⟩ := bnd h
      refine bnd_i (aix_i (by decide) ej12 rfl) ?_
      obtain ⟨_, g3, h⟩ := bnd h
      refine bnd_i (bz_i g3 l32_0) ?_
      obtain ⟨z14, ez14, h⟩ := stN_o h
      refine stM_i (pI_i ez14 l32_0) ?_
      exact ih h (hAdd rfl l32_1)
set_option maxRecDepth 20000 in
theorem i_X_clear {z : MemI} {a0 : MemI} (h : di_X_clear z = some a0)  : dn_X_clear (EE z) = some (EE a0) := by
  unfold di_X_clear at h
  unfold dn_X_clear
  obtain ⟨_, g1, h⟩ := bnd h
  refine bnd_i (bz_i g1 l32_0) ?_
  obtain ⟨z2, ez2, h⟩ := stN_o h
  refine stM_i (pI_i ez2 l32_0) ?_
  obtain ⟨z3, ez3, h⟩ := stN_o h
  refine stM_i (pI_i ez3 l32_0) ?_
  obtain ⟨z4, ez4, h⟩ := stN_o h
  refine stM_i (pI_i ez4 l32_0) ?_
  obtain ⟨z5, ez5, h⟩ := stN_o h
  refine stM_i (pI_i ez5 l32_0) ?_
  refine i_X_clear_22 (fun z11 h  => ?_) FU h l32_0
  · refine i_X_clear_55 (fun z15 h  => ?_) FU h l32_0
    · obtain ⟨z16, ez16, h⟩ := bnd h
      refine bnd_i (i_A_unsetAll ez16 ) ?_
      obtain ⟨z17, ez17, h⟩ := bnd h
      refine bnd_i (i_J_fillX16 ez17 l64_m1) ?_
      exact retv_i h
set_option maxRecDepth 20000 in
theorem i_A_set {Xx1 : Int32} {Xx2 : Int32} {Xx3 : Int32} {x1 : Int} {x2 : Int} {x3 : Int} {z : MemI} {a0 : MemI} (h : di_A_set x1 x2 x3 z = some a0) (hx1 : Xx1 = Int32.ofInt x1) (hx2 : Xx2 = Int32.ofInt x2) (hx3 : Xx3 = Int32.ofInt x3) : dn_A_set Xx1 Xx2 Xx3 (EE z) = some (EE a0) := by
  subst hx1 hx2 hx3
  unfold di_A_set at h
  unfold dn_A_set
  obtain ⟨j1, ej1, h⟩ := bnd h
  refine bnd_i (aix_i (by decide) ej1 rfl) ?_
  obtain ⟨z2, ez2, h⟩ := stN_o h
  refine stM_i (pI_i ez2 rfl) ?_
  obtain ⟨j3, ej3, h⟩ := bnd h
  refine bnd_i (aix_i (by decide) ej3 rfl) ?_
  obtain ⟨z4, ez4, h⟩ := stN_o h
  refine stM_i (pI_i ez4 rfl) ?_
  obtain ⟨j5, ej5, h⟩ := bnd h
  refine bnd_i (aix_i (by decide) ej5 rfl) ?_
  obtain ⟨z6, ez6, h⟩ := stN_o h
  refine stM_i (pI_i ez6 rfl) ?_
  obtain ⟨z7, ez7, h⟩ := stN_o h
  refine stM_i (pI_i ez7 (hAdd rfl l32_1)) ?_
  exact retv_i h
set_option maxRecDepth 20000 in
theorem i_X_begin_15 {Kk47 : Mem → Option Mem} {k47 : MemI → Option MemI} {a0 : MemI}
    (hk47 : ∀ (y0 : MemI), k47 y0 = some a0 → Kk47 (EE y0) = some (EE a0)) :
    ∀ (n : Nat) {Xx1 : Int32} {x1 : Int} {z : MemI}, di_X_begin_15 k47 n x1 z = some a0 → Xx1 = Int32.ofInt x1 → dn_X_begin_15 Kk47 n Xx1 (EE z) = some (EE a0) := by
  intro n
  induction n with
  | zero =>
    intro Xx1 x1 z h hx1
    cases h
  | succ n ih =>
    intro Xx1 x1 z h hx1
    subst hx1
    rw [di_X_begin_15] at h
    rw [dn_X_begin_15]
    obtain ⟨_, g1, h⟩ := bnd h
    obtain ⟨_, g2, h⟩ := bnd h
    by_cases hc3 : (z.1 0 0 7) ≤ x1
    · have h := ite_t h hc3
      refine ite_gt (le_i (x := (z.1 0 0 7)) (y := x1) (rg_some g1) (rg_some g2) rfl rfl) hc3 ?_
      exact hk47 _ h 
    · have h := ite_f h hc3
      refine ite_gf (le_i (x := (z.1 0 0 7)) (y := x1) (rg_some g1) (rg_some g2) rfl rfl) hc3 ?_
      obtain ⟨j3, ej3, h⟩ := bnd h
      refine bnd_i (aix_i (by decide) ej3 rfl) ?_
      obtain ⟨z4, ez4, h⟩ := bnd h
      refine bnd_i (i_A_set ez4 rfl l32_1 rfl) ?_
      exact ih h (hAdd rfl l32_1)
set_option maxRecDepth 20000 in
theorem i_X_begin {z : MemI} {a0 : MemI} (h : di_X_begin z = some a0)  : dn_X_begin (EE z) = some (EE a0) := by
  unfold di_X_begin at h
  unfold dn_X_begin
  obtain ⟨_, g1, h⟩ := bnd h
  by_cases hc2 : (z.1 0 0 9) = (0 : Int)
  · have h := ite_t h hc2
    refine ite_gt (eq_i (x := (z.1 0 0 9)) (y := (0 : Int)) (rg_some g1) (by decide) rfl l32_0) hc2 ?_
    obtain ⟨_, g3, h⟩ := bnd h
    refine bnd_i (bz_i g3 l32_1) ?_
    obtain ⟨z2, ez2, h⟩ := stN_o h
    refine stM_i (pI_i ez2 l32_1) ?_
    refine i_X_begin_15 (fun z5 h  => ?_) FU h l32_0
    · exact retv_i h
  · have h := ite_f h hc2
    refine ite_gf (eq_i (x := (z.1 0 0 9)) (y := (0 : Int)) (rg_some g1) (by decide) rfl l32_0) hc2 ?_
    exact retv_i h
set_option maxRecDepth 20000 in
theorem i_A_isBefore {Xx1 : Int32} {Xx2 : Int32} {x1 : Int} {x2 : Int} {z : MemI} {r0 : Int} {a0 : MemI} (h : di_A_isBefore x1 x2 z = some (r0, a0)) (hx1 : Xx1 = Int32.ofInt x1) (hx2 : Xx2 = Int32.ofInt x2) : dn_A_isBefore Xx1 Xx2 (EE z) = some (Int32.ofInt r0, EE a0) := by
  subst hx1 hx2
  unfold di_A_isBefore at h
  unfold dn_A_isBefore
  obtain ⟨j1, ej1, h⟩ := bnd h
  refine bnd_i (aix_i (by decide) ej1 rfl) ?_
  obtain ⟨j2, ej2, h⟩ := bnd h
  refine bnd_i (aix_i (by decide) ej2 rfl) ?_
  obtain ⟨_, g1, h⟩ := bnd h
  obtain ⟨_, g2, h⟩ := bnd h
  by_cases hc3 : (z.1 14 0 j1) < (z.1 14 0 j2)
  · have h := ite_t h hc3
    refine ite_gt (lt_i (x := (z.1 14 0 j1)) (y := (z.1 14 0 j2)) (rg_some g1) (rg_some g2) rfl rfl) hc3 ?_
    obtain ⟨_, g4, h⟩ := bnd h
    refine bnd_i (bz_i g4 l32_1) ?_
    exact ret_i l32_1 h
  · have h := ite_f h hc3
    refine ite_gf (lt_i (x := (z.1 14 0 j1)) (y := (z.1 14 0 j2)) (rg_some g1) (rg_some g2) rfl rfl) hc3 ?_
    obtain ⟨j4, ej4, h⟩ := bnd h
    refine bnd_i (aix_i (by decide) ej4 rfl) ?_
    obtain ⟨j5, ej5, h⟩ := bnd h
    refine bnd_i (aix_i (by decide) ej5 rfl) ?_
    obtain ⟨_, g5, h⟩ := bnd h
    obtain ⟨_, g6, h⟩ := bnd h
    by_cases hc7 : (z.1 14 0 j4) = (z.1 14 0 j5)
    · have h := ite_t h hc7
      refine ite_gt (eq_i (x := (z.1 14 0 j4)) (y := (z.1 14 0 j5)) (rg_some g5) (rg_some g6) rfl rfl) hc7 ?_
      obtain ⟨j7, ej7, h⟩ := bnd h
      refine bnd_i (aix_i (by decide) ej7 rfl) ?_
      obtain ⟨j8, ej8, h⟩ := bnd h
      refine bnd_i (aix_i (by decide) ej8 rfl) ?_
      obtain ⟨_, g8, h⟩ := bnd h
      obtain ⟨_, g9, h⟩ := bnd h
      by_cases hc10 : (z.1 15 0 j8) ≤ (z.1 15 0 j7)
      · have h := ite_t h hc10
        refine ite_gt (le_i (x := (z.1 15 0 j8)) (y := (z.1 15 0 j7)) (rg_some g8) (rg_some g9) rfl rfl) hc10 ?_
        obtain ⟨_, g11, h⟩ := bnd h
        refine bnd_i (bz_i g11 l32_0) ?_
        exact ret_i l32_0 h
      · have h := ite_f h hc10
        refine ite_gf (le_i (x := (z.1 15 0 j8)) (y := (z.1 15 0 j7)) (rg_some g8) (rg_some g9) rfl rfl) hc10 ?_
        obtain ⟨_, g12, h⟩ := bnd h
        refine bnd_i (bz_i g12 l32_1) ?_
        exact ret_i l32_1 h
    · have h := ite_f h hc7
      refine ite_gf (eq_i (x := (z.1 14 0 j4)) (y := (z.1 14 0 j5)) (rg_some g5) (rg_some g6) rfl rfl) hc7 ?_
      obtain ⟨_, g13, h⟩ := bnd h
      refine bnd_i (bz_i g13 l32_0) ?_
      exact ret_i l32_0 h
set_option maxRecDepth 20000 in
theorem i_A_firstSlot_4 {Kk41 : Int32 → Mem → Option (Int32 × Mem)} {k41 : Int → MemI → Option (Int × MemI)} {r0 : Int} {a0 : MemI}
    (hk41 : ∀ (Xy0 : Int32) (y0 : Int) (y1 : MemI), k41 y0 y1 = some (r0, a0) → Xy0 = Int32.ofInt y0 → Kk41 Xy0 (EE y1) = some (Int32.ofInt r0, EE a0)) :
    ∀ (n : Nat) {Xx1 : Int32} {Xx2 : Int32} {x1 : Int} {x2 : Int} {z : MemI}, di_A_firstSlot_4 k41 n x1 x2 z = some (r0, a0) → Xx1 = Int32.ofInt x1 → Xx2 = Int32.ofInt x2 → dn_A_firstSlot_4 Kk41 n Xx1 Xx2 (EE z) = some (Int32.ofInt r0, EE a0) := by
  intro n
  induction n with
  | zero =>
    intro Xx1 Xx2 x1 x2 z h hx1 hx2
    cases h
  | succ n ih =>
    intro Xx1 Xx2 x1 x2 z h hx1 hx2
    subst hx1 hx2
    rw [di_A_firstSlot_4] at h
    rw [dn_A_firstSlot_4]
    obtain ⟨_, g1, h⟩ := bnd h
    by_cases hc2 : (70 : Int) ≤ x2
    · have h := ite_t h hc2
      refine ite_gt (le_i (x := (70 : Int)) (y := x2) (by decide) (rg_some g1) l32_70 rfl) hc2 ?_
      exact hk41 _ _ _ h rfl
    · have h := ite_f h hc2
      refine ite_gf (le_i (x := (70 : Int)) (y := x2) (by decide) (rg_some g1) l32_70 rfl) hc2 ?_
      obtain ⟨j1, ej1, h⟩ := bnd h
      refine bnd_i (aix_i (by decide) ej1 rfl) ?_
      obtain ⟨_, g3, h⟩ := bnd h
      by_cases hc4 : (z.1 13 0 j1) = (0 : Int)
      · have h := ite_t h hc4
        refine ite_gt (eq_i (x := (z.1 13 0 j1)) (y := (0 : Int)) (rg_some g3) (by decide) rfl l32_0) hc4 ?_
        exact ih h rfl (hAdd rfl l32_1)
      · have h := ite_f h hc4
        refine ite_gf (eq_i (x := (z.1 13 0 j1)) (y := (0 : Int)) (rg_some g3) (by decide) rfl l32_0) hc4 ?_
        obtain ⟨_, g5, h⟩ := bnd h
        by_cases hc6 : x1 = (-1 : Int)
        · have h := ite_t h hc6
          refine ite_gt (eq_i (x := x1) (y := (-1 : Int)) (rg_some g5) (by decide) rfl l32_m1) hc6 ?_
          exact ih h rfl (hAdd rfl l32_1)
        · have h := ite_f h hc6
          refine ite_gf (eq_i (x := x1) (y := (-1 : Int)) (rg_some g5) (by decide) rfl l32_m1) hc6 ?_
          obtain ⟨⟨v2, z2⟩, er2, h⟩ := bnd h
          refine bnd_i (i_A_isBefore er2 rfl rfl) ?_
          obtain ⟨_, g7, h⟩ := bnd h
          by_cases hc8 : v2 = (0 : Int)
          · have h := ite_t h hc8
            refine ite_gt (eq_i (x := v2) (y := (0 : Int)) (rg_some g7) (by decide) rfl l32_0) hc8 ?_
            exact ih h rfl (hAdd rfl l32_1)
          · have h := ite_f h hc8
            refine ite_gf (eq_i (x := v2) (y := (0 : Int)) (rg_some g7) (by decide) rfl l32_0) hc8 ?_
            exact ih h rfl (hAdd rfl l32_1)
set_option maxRecDepth 20000 in
theorem i_A_firstSlot {z : MemI} {r0 : Int} {a0 : MemI} (h : di_A_firstSlot z = some (r0, a0))  : dn_A_firstSlot (EE z) = some (Int32.ofInt r0, EE a0) := by
  unfold di_A_firstSlot at h
  unfold dn_A_firstSlot
  refine i_A_firstSlot_4 (fun Xx1 x1 z3 h hx1 => ?_) FU h l32_m1 l32_0
  · subst hx1
    exact ret_i rfl h
set_option maxRecDepth 20000 in
theorem i_A_unset {Xx1 : Int32} {x1 : Int} {z : MemI} {a0 : MemI} (h : di_A_unset x1 z = some a0) (hx1 : Xx1 = Int32.ofInt x1) : dn_A_unset Xx1 (EE z) = some (EE a0) := by
  subst hx1
  unfold di_A_unset at h
  unfold dn_A_unset
  obtain ⟨j1, ej1, h⟩ := bnd h
  refine bnd_i (aix_i (by decide) ej1 rfl) ?_
  obtain ⟨z2, ez2, h⟩ := stN_o h
  refine stM_i (pI_i ez2 l32_0) ?_
  exact retv_i h
set_option maxRecDepth 20000 in
theorem i_X_remember {Xx1 : Int32} {Xx2 : Int32} {Xx3 : Int32} {x1 : Int} {x2 : Int} {x3 : Int} {z : MemI} {a0 : MemI} (h : di_X_remember x1 x2 x3 z = some a0) (hx1 : Xx1 = Int32.ofInt x1) (hx2 : Xx2 = Int32.ofInt x2) (hx3 : Xx3 = Int32.ofInt x3) : dn_X_remember Xx1 Xx2 Xx3 (EE z) = some (EE a0) := by
  subst hx1 hx2 hx3
  unfold di_X_remember at h
  unfold dn_X_remember
  obtain ⟨_, g1, h⟩ := bnd h
  refine bnd_i (acp_i (by decide) g1 l32_0 l32_1 l32_15) ?_
  obtain ⟨z2, ez2, h⟩ := stN_o h
  refine stM_i (cpL_i (by decide) g1 ez2 l32_0 l32_1 l32_15) ?_
  obtain ⟨j3, ej3, h⟩ := bnd h
  refine bnd_i (aix_i (by decide) ej3 l32_0) ?_
  obtain ⟨_, g2, h⟩ := bnd h
  obtain ⟨_, g3, h⟩ := bnd h
  obtain ⟨_, g4, h⟩ := bnd h
  obtain ⟨_, g5, h⟩ := bnd h
  obtain ⟨z4, ez4, h⟩ := stN_o h
  refine stM_i (pL_i ez4 (hAddL (hAddL (hAddL (hMulL (hI2L g2 rfl) l64_1048576) (hI2L g3 (hMul rfl l32_65536))) (hI2L g4 (hMul rfl l32_256))) (hI2L g5 rfl))) ?_
  exact retv_i h
set_option maxRecDepth 20000 in
theorem i_M_min {Xx0 : Int32} {Xx1 : Int32} {x0 : Int} {x1 : Int} {r0 : Int} (h : di_M_min x0 x1 = some r0) (hx0 : Xx0 = Int32.ofInt x0) (hx1 : Xx1 = Int32.ofInt x1) : dn_M_min Xx0 Xx1 = some (Int32.ofInt r0) := by
  subst hx0 hx1
  unfold di_M_min at h
  unfold dn_M_min
  obtain ⟨_, g1, h⟩ := bnd h
  obtain ⟨_, g2, h⟩ := bnd h
  by_cases hc3 : x1 < x0
  · have h := ite_t h hc3
    refine ite_gt (lt_i (x := x1) (y := x0) (rg_some g1) (rg_some g2) rfl rfl) hc3 ?_
    exact retp_i rfl h
  · have h := ite_f h hc3
    refine ite_gf (lt_i (x := x1) (y := x0) (rg_some g1) (rg_some g2) rfl rfl) hc3 ?_
    exact retp_i rfl h
set_option maxRecDepth 20000 in
theorem i_X_hasTimer {Xx1 : Int32} {x1 : Int} {z : MemI} {r0 : Int} {a0 : MemI} (h : di_X_hasTimer x1 z = some (r0, a0)) (hx1 : Xx1 = Int32.ofInt x1) : dn_X_hasTimer Xx1 (EE z) = some (Int32.ofInt r0, EE a0) := by
  subst hx1
  unfold di_X_hasTimer at h
  unfold dn_X_hasTimer
  obtain ⟨j1, ej1, h⟩ := bnd h
  refine bnd_i (aix_i (by decide) ej1 rfl) ?_
  obtain ⟨_, g1, h⟩ := bnd h
  by_cases hc2 : (z.1 13 0 j1) = (4 : Int)
  · have h := ite_t h hc2
    refine ite_gt (eq_i (x := (z.1 13 0 j1)) (y := (4 : Int)) (rg_some g1) (by decide) rfl l32_4) hc2 ?_
    obtain ⟨_, g3, h⟩ := bnd h
    refine bnd_i (bz_i g3 l32_1) ?_
    exact ret_i l32_1 h
  · have h := ite_f h hc2
    refine ite_gf (eq_i (x := (z.1 13 0 j1)) (y := (4 : Int)) (rg_some g1) (by decide) rfl l32_4) hc2 ?_
    obtain ⟨_, g4, h⟩ := bnd h
    refine bnd_i (bz_i g4 l32_0) ?_
    exact ret_i l32_0 h
set_option maxRecDepth 20000 in
theorem i_K_enter {Xx1 : Int32} {Xx2 : Int32} {Xx3 : Int32} {x0 : Nat} {x1 : Int} {x2 : Int} {x3 : Int} {x4 : Nat} {z : MemI} {a0 : MemI} (h : di_K_enter x0 x1 x2 x3 x4 z = some a0) (hx1 : Xx1 = Int32.ofInt x1) (hx2 : Xx2 = Int32.ofInt x2) (hx3 : Xx3 = Int32.ofInt x3) : dn_K_enter x0 Xx1 Xx2 Xx3 x4 (EE z) = some (EE a0) := by
  subst hx1 hx2 hx3
  unfold di_K_enter at h
  unfold dn_K_enter
  obtain ⟨_, g1, h⟩ := bnd h
  refine bnd_i (bz_i g1 l32_1) ?_
  obtain ⟨z2, ez2, h⟩ := stN_o h
  refine stM_i (pI_i ez2 l32_1) ?_
  obtain ⟨_, g2, h⟩ := bnd h
  refine bnd_i (bz_i g2 rfl) ?_
  obtain ⟨z4, ez4, h⟩ := stN_o h
  refine stM_i (pI_i ez4 rfl) ?_
  obtain ⟨z5, ez5, h⟩ := stN_o h
  refine stM_i (pI_i ez5 rfl) ?_
  obtain ⟨z6, ez6, h⟩ := stN_o h
  refine stM_i (pI_i ez6 rfl) ?_
  obtain ⟨_, g3, h⟩ := bnd h
  by_cases hc4 : x3 = (0 : Int)
  · have h := ite_t h hc4
    refine ite_gt (eq_i (x := x3) (y := (0 : Int)) (rg_some g3) (by decide) rfl l32_0) hc4 ?_
    obtain ⟨z7, ez7, h⟩ := stN_o h
    refine stM_i (pI_i ez7 rfl) ?_
    by_cases hc5 : x3 = (0 : Int)
    · have h := ite_t h hc5
      refine ite_gt (eq_i (x := x3) (y := (0 : Int)) (rg_some g3) (by decide) rfl l32_0) hc5 ?_
      obtain ⟨z8, ez8, h⟩ := stN_o h
      refine stM_i (pI_i ez8 rfl) ?_
      exact retv_i h
    · have h := ite_f h hc5
      refine ite_gf (eq_i (x := x3) (y := (0 : Int)) (rg_some g3) (by decide) rfl l32_0) hc5 ?_
      obtain ⟨z9, ez9, h⟩ := stN_o h
      refine stM_i (pI_i ez9 rfl) ?_
      exact retv_i h
  · have h := ite_f h hc4
    refine ite_gf (eq_i (x := x3) (y := (0 : Int)) (rg_some g3) (by decide) rfl l32_0) hc4 ?_
    obtain ⟨z10, ez10, h⟩ := stN_o h
    refine stM_i (pI_i ez10 l32_1) ?_
    by_cases hc6 : x3 = (0 : Int)
    · have h := ite_t h hc6
      refine ite_gt (eq_i (x := x3) (y := (0 : Int)) (rg_some g3) (by decide) rfl l32_0) hc6 ?_
      obtain ⟨z11, ez11, h⟩ := stN_o h
      refine stM_i (pI_i ez11 rfl) ?_
      exact retv_i h
    · have h := ite_f h hc6
      refine ite_gf (eq_i (x := x3) (y := (0 : Int)) (rg_some g3) (by decide) rfl l32_0) hc6 ?_
      obtain ⟨z12, ez12, h⟩ := stN_o h
      refine stM_i (pI_i ez12 rfl) ?_
      exact retv_i h
set_option maxRecDepth 20000 in
theorem i_X_make_18 {Kk38 : Int32 → Int32 → Int32 → Int32 → Mem → Option (Int32 × Mem)} {k38 : Int → Int → Int → Int → MemI → Option (Int × MemI)} {Kk66 : Int32 → Mem → Option (Int32 × Mem)} {k66 : Int → MemI → Option (Int × MemI)} {r0 : Int} {a0 : MemI}
    (hk38 : ∀ (Xy0 : Int32) (Xy1 : Int32) (Xy2 : Int32) (Xy3 : Int32) (y0 : Int) (y1 : Int) (y2 : Int) (y3 : Int) (y4 : MemI), k38 y0 y1 y2 y3 y4 = some (r0, a0) → Xy0 = Int32.ofInt y0 → Xy1 = Int32.ofInt y1 → Xy2 = Int32.ofInt y2 → Xy3 = Int32.ofInt y3 → Kk38 Xy0 Xy1 Xy2 Xy3 (EE y4) = some (Int32.ofInt r0, EE a0))
    (hk66 : ∀ (Xy0 : Int32) (y0 : Int) (y1 : MemI), k66 y0 y1 = some (r0, a0) → Xy0 = Int32.ofInt y0 → Kk66 Xy0 (EE y1) = some (Int32.ofInt r0, EE a0)) :
    ∀ (n : Nat) {Xx1 : Int32} {Xx2 : Int32} {Xx3 : Int32} {Xx4 : Int32} {x1 : Int} {x2 : Int} {x3 : Int} {x4 : Int} {z : MemI}, di_X_make_18 k38 k66 n x1 x2 x3 x4 z = some (r0, a0) → Xx1 = Int32.ofInt x1 → Xx2 = Int32.ofInt x2 → Xx3 = Int32.ofInt x3 → Xx4 = Int32.ofInt x4 → dn_X_make_18 Kk38 Kk66 n Xx1 Xx2 Xx3 Xx4 (EE z) = some (Int32.ofInt r0, EE a0) := by
  intro n
  induction n with
  | zero =>
    intro Xx1 Xx2 Xx3 Xx4 x1 x2 x3 x4 z h hx1 hx2 hx3 hx4
    cases h
  | succ n ih =>
    intro Xx1 Xx2 Xx3 Xx4 x1 x2 x3 x4 z h hx1 hx2 hx3 hx4
    subst hx1 hx2 hx3 hx4
    rw [di_X_make_18] at h
    rw [dn_X_make_18]
    obtain ⟨_, g1, h⟩ := bnd h
    by_cases hc2 : (64 : Int) ≤ x4
    · have h := ite_t h hc2
      refine ite_gt (le_i (x := (64 : Int)) (y := x4) (by decide) (rg_some g1) l32_64 rfl) hc2 ?_
      exact hk66 _ _ _ h rfl
    · have h := ite_f h hc2
      refine ite_gf (le_i (x := (64 : Int)) (y := x4) (by decide) (rg_some g1) l32_64 rfl) hc2 ?_
      obtain ⟨j3, ej3, h⟩ := bnd h
      refine bnd_i (aix_i (by decide) ej3 rfl) ?_
      obtain ⟨_, g3, h⟩ := bnd h
      by_cases hc4 : (z.1 11 j3 0) = (0 : Int)
      · have h := ite_t h hc4
        refine ite_gt (eq_i (x := (z.1 11 j3 0)) (y := (0 : Int)) (rg_some g3) (by decide) rfl l32_0) hc4 ?_
        exact hk38 _ _ _ _ _ _ _ _ _ h rfl rfl rfl rfl
      · have h := ite_f h hc4
        refine ite_gf (eq_i (x := (z.1 11 j3 0)) (y := (0 : Int)) (rg_some g3) (by decide) rfl l32_0) hc4 ?_
        exact ih h rfl rfl rfl (hAdd rfl l32_1)
set_option maxRecDepth 20000 in
theorem i_X_make {Xx1 : Int32} {Xx2 : Int32} {Xx3 : Int32} {x1 : Int} {x2 : Int} {x3 : Int} {z : MemI} {r0 : Int} {a0 : MemI} (h : di_X_make x1 x2 x3 z = some (r0, a0)) (hx1 : Xx1 = Int32.ofInt x1) (hx2 : Xx2 = Int32.ofInt x2) (hx3 : Xx3 = Int32.ofInt x3) : dn_X_make Xx1 Xx2 Xx3 (EE z) = some (Int32.ofInt r0, EE a0) := by
  subst hx1 hx2 hx3
  unfold di_X_make at h
  unfold dn_X_make
  obtain ⟨j1, ej1, h⟩ := bnd h
  refine bnd_i (aix_i (by decide) ej1 rfl) ?_
  obtain ⟨z2, ez2, h⟩ := stN_o h
  refine stM_i (pI_i ez2 (hAdd rfl l32_1)) ?_
  refine i_X_make_18 (fun Xx1 Xx2 Xx3 Xx4 x1 x2 x3 x4 z4 h hx1 hx2 hx3 hx4 => ?_) (fun Xx1 x1 z8 h hx1 => ?_) FU h rfl rfl rfl l32_0
  · subst hx1 hx2 hx3 hx4
    obtain ⟨j5, ej5, h⟩ := bnd h
    refine bnd_i (aix_i (by decide) ej5 rfl) ?_
    obtain ⟨j6, ej6, h⟩ := bnd h
    refine bnd_i (aix_i (by decide) ej6 rfl) ?_
    obtain ⟨z7, ez7, h⟩ := bnd h
    refine bnd_i (i_K_enter ez7 rfl rfl rfl) ?_
    exact ret_i rfl h
  · subst hx1
    obtain ⟨j9, ej9, h⟩ := bnd h
    refine bnd_i (aix_i (by decide) ej9 rfl) ?_
    obtain ⟨z10, ez10, h⟩ := stN_o h
    refine stM_i (pI_i ez10 (hAdd rfl l32_1)) ?_
    exact ret_i l32_m1 h
set_option maxRecDepth 20000 in
theorem i_X_way_35 {Kk91 : Int32 → Mem → Option (Int32 × Mem)} {k91 : Int → MemI → Option (Int × MemI)} {Kk99 : Mem → Option (Int32 × Mem)} {k99 : MemI → Option (Int × MemI)} {r0 : Int} {a0 : MemI}
    (hk91 : ∀ (Xy0 : Int32) (y0 : Int) (y1 : MemI), k91 y0 y1 = some (r0, a0) → Xy0 = Int32.ofInt y0 → Kk91 Xy0 (EE y1) = some (Int32.ofInt r0, EE a0))
    (hk99 : ∀ (y0 : MemI), k99 y0 = some (r0, a0) → Kk99 (EE y0) = some (Int32.ofInt r0, EE a0)) :
    ∀ (n : Nat) {Xx1 : Int32} {Xx2 : Int32} {Xx3 : Int32} {x1 : Int} {x2 : Int} {x3 : Int} {z : MemI}, di_X_way_35 k91 k99 n x1 x2 x3 z = some (r0, a0) → Xx1 = Int32.ofInt x1 → Xx2 = Int32.ofInt x2 → Xx3 = Int32.ofInt x3 → dn_X_way_35 Kk91 Kk99 n Xx1 Xx2 Xx3 (EE z) = some (Int32.ofInt r0, EE a0) := by
  intro n
  induction n with
  | zero =>
    intro Xx1 Xx2 Xx3 x1 x2 x3 z h hx1 hx2 hx3
    cases h
  | succ n ih =>
    intro Xx1 Xx2 Xx3 x1 x2 x3 z h hx1 hx2 hx3
    subst hx1 hx2 hx3
    rw [di_X_way_35] at h
    rw [dn_X_way_35]
    obtain ⟨_, g1, h⟩ := bnd h
    obtain ⟨_, g2, h⟩ := bnd h
    by_cases hc3 : ((2 : Int) * (z.1 0 0 6)) ≤ x3
    · have h := ite_t h hc3
      refine ite_gt (le_i (x := ((2 : Int) * (z.1 0 0 6))) (y := x3) (rg_some g1) (rg_some g2) (hMul l32_2 rfl) rfl) hc3 ?_
      exact hk99 _ h 
    · have h := ite_f h hc3
      refine ite_gf (le_i (x := ((2 : Int) * (z.1 0 0 6))) (y := x3) (rg_some g1) (rg_some g2) (hMul l32_2 rfl) rfl) hc3 ?_
      obtain ⟨j5, ej5, h⟩ := bnd h
      refine bnd_i (aix_i (by decide) ej5 rfl) ?_
      obtain ⟨_, g4, h⟩ := bnd h
      obtain ⟨_, g5, h⟩ := bnd h
      by_cases hc6 : (z.1 4 j5 0) = x1
      · have h := ite_t h hc6
        refine ite_gt (eq_i (x := (z.1 4 j5 0)) (y := x1) (rg_some g4) (rg_some g5) rfl rfl) hc6 ?_
        obtain ⟨j6, ej6, h⟩ := bnd h
        refine bnd_i (aix_i (by decide) ej6 rfl) ?_
        obtain ⟨j7, ej7, h⟩ := bnd h
        refine bnd_i (aix_i (by decide) ej7 rfl) ?_
        obtain ⟨j8, ej8, h⟩ := bnd h
        refine bnd_i (aix_i (by decide) ej8 rfl) ?_
        obtain ⟨j9, ej9, h⟩ := bnd h
        refine bnd_i (aix_i (by decide) ej9 rfl) ?_
        obtain ⟨_, g7, h⟩ := bnd h
        obtain ⟨_, g8, h⟩ := bnd h
        by_cases hc9 : ((z.1 4 j5 2) + (z.1 2 j6 j7)) = (z.1 2 j8 j9)
        · have h := ite_t h hc9
          refine ite_gt (eq_i (x := ((z.1 4 j5 2) + (z.1 2 j6 j7))) (y := (z.1 2 j8 j9)) (rg_some g7) (rg_some g8) (hAdd rfl rfl) rfl) hc9 ?_
          exact hk91 _ _ _ h rfl
        · have h := ite_f h hc9
          refine ite_gf (eq_i (x := ((z.1 4 j5 2) + (z.1 2 j6 j7))) (y := (z.1 2 j8 j9)) (rg_some g7) (rg_some g8) (hAdd rfl rfl) rfl) hc9 ?_
          exact ih h rfl rfl (hAdd rfl l32_1)
      · have h := ite_f h hc6
        refine ite_gf (eq_i (x := (z.1 4 j5 0)) (y := x1) (rg_some g4) (rg_some g5) rfl rfl) hc6 ?_
        exact ih h rfl rfl (hAdd rfl l32_1)
set_option maxRecDepth 20000 in
theorem i_X_way {Xx1 : Int32} {Xx2 : Int32} {x1 : Int} {x2 : Int} {z : MemI} {r0 : Int} {a0 : MemI} (h : di_X_way x1 x2 z = some (r0, a0)) (hx1 : Xx1 = Int32.ofInt x1) (hx2 : Xx2 = Int32.ofInt x2) : dn_X_way Xx1 Xx2 (EE z) = some (Int32.ofInt r0, EE a0) := by
  subst hx1 hx2
  unfold di_X_way at h
  unfold dn_X_way
  obtain ⟨v1, ev1, h⟩ := bnd h
  refine bnd_i (i_X_isNode ev1 rfl) ?_
  obtain ⟨_, g1, h⟩ := bnd h
  by_cases hc2 : v1 = (0 : Int)
  · have h := ite_t h hc2
    refine ite_gt (eq_i (x := v1) (y := (0 : Int)) (rg_some g1) (by decide) rfl l32_0) hc2 ?_
    exact ret_i l32_m1 h
  · have h := ite_f h hc2
    refine ite_gf (eq_i (x := v1) (y := (0 : Int)) (rg_some g1) (by decide) rfl l32_0) hc2 ?_
    obtain ⟨v2, ev2, h⟩ := bnd h
    refine bnd_i (i_X_isNode ev2 rfl) ?_
    obtain ⟨_, g3, h⟩ := bnd h
    by_cases hc4 : v2 = (0 : Int)
    · have h := ite_t h hc4
      refine ite_gt (eq_i (x := v2) (y := (0 : Int)) (rg_some g3) (by decide) rfl l32_0) hc4 ?_
      exact ret_i l32_m1 h
    · have h := ite_f h hc4
      refine ite_gf (eq_i (x := v2) (y := (0 : Int)) (rg_some g3) (by decide) rfl l32_0) hc4 ?_
      obtain ⟨_, g5, h⟩ := bnd h
      obtain ⟨_, g6, h⟩ := bnd h
      by_cases hc7 : x1 = x2
      · have h := ite_t h hc7
        refine ite_gt (eq_i (x := x1) (y := x2) (rg_some g5) (rg_some g6) rfl rfl) hc7 ?_
        exact ret_i l32_m1 h
      · have h := ite_f h hc7
        refine ite_gf (eq_i (x := x1) (y := x2) (rg_some g5) (rg_some g6) rfl rfl) hc7 ?_
        obtain ⟨j3, ej3, h⟩ := bnd h
        refine bnd_i (aix_i (by decide) ej3 rfl) ?_
        obtain ⟨j4, ej4, h⟩ := bnd h
        refine bnd_i (aix_i (by decide) ej4 rfl) ?_
        obtain ⟨_, g8, h⟩ := bnd h
        by_cases hc9 : (z.1 2 j3 j4) = (-1 : Int)
        · have h := ite_t h hc9
          refine ite_gt (eq_i (x := (z.1 2 j3 j4)) (y := (-1 : Int)) (rg_some g8) (by decide) rfl l32_m1) hc9 ?_
          exact ret_i l32_m1 h
        · have h := ite_f h hc9
          refine ite_gf (eq_i (x := (z.1 2 j3 j4)) (y := (-1 : Int)) (rg_some g8) (by decide) rfl l32_m1) hc9 ?_
          refine i_X_way_35 (fun Xx3 x3 z10 h hx3 => ?_) (fun z11 h  => ?_) FU h rfl rfl l32_0
          · subst hx3
            exact ret_i rfl h
          · exact ret_i l32_m1 h
set_option maxRecDepth 20000 in
theorem i_X_queuedOf_5 {Kk42 : Int32 → Mem → Option (Int32 × Mem)} {k42 : Int → MemI → Option (Int × MemI)} {r0 : Int} {a0 : MemI}
    (hk42 : ∀ (Xy0 : Int32) (y0 : Int) (y1 : MemI), k42 y0 y1 = some (r0, a0) → Xy0 = Int32.ofInt y0 → Kk42 Xy0 (EE y1) = some (Int32.ofInt r0, EE a0)) :
    ∀ (n : Nat) {Xx2 : Int32} {Xx3 : Int32} {Xx4 : Int32} {x1 : Nat} {x2 : Int} {x3 : Int} {x4 : Int} {z : MemI}, di_X_queuedOf_5 k42 n x1 x2 x3 x4 z = some (r0, a0) → Xx2 = Int32.ofInt x2 → Xx3 = Int32.ofInt x3 → Xx4 = Int32.ofInt x4 → dn_X_queuedOf_5 Kk42 n x1 Xx2 Xx3 Xx4 (EE z) = some (Int32.ofInt r0, EE a0) := by
  intro n
  induction n with
  | zero =>
    intro Xx2 Xx3 Xx4 x1 x2 x3 x4 z h hx2 hx3 hx4
    cases h
  | succ n ih =>
    intro Xx2 Xx3 Xx4 x1 x2 x3 x4 z h hx2 hx3 hx4
    subst hx2 hx3 hx4
    rw [di_X_queuedOf_5] at h
    rw [dn_X_queuedOf_5]
    obtain ⟨_, g1, h⟩ := bnd h
    obtain ⟨_, g2, h⟩ := bnd h
    by_cases hc3 : (z.1 4 x1 8) ≤ x4
    · have h := ite_t h hc3
      refine ite_gt (le_i (x := (z.1 4 x1 8)) (y := x4) (rg_some g1) (rg_some g2) rfl rfl) hc3 ?_
      exact hk42 _ _ _ h rfl
    · have h := ite_f h hc3
      refine ite_gf (le_i (x := (z.1 4 x1 8)) (y := x4) (rg_some g1) (rg_some g2) rfl rfl) hc3 ?_
      obtain ⟨j1, ej1, h⟩ := bnd h
      refine bnd_i (aix_i (by decide) ej1 rfl) ?_
      obtain ⟨j2, ej2, h⟩ := bnd h
      refine bnd_i (aix_i (by decide) ej2 rfl) ?_
      obtain ⟨_, g4, h⟩ := bnd h
      obtain ⟨_, g5, h⟩ := bnd h
      by_cases hc6 : (z.1 11 j2 2) = x2
      · have h := ite_t h hc6
        refine ite_gt (eq_i (x := (z.1 11 j2 2)) (y := x2) (rg_some g4) (rg_some g5) rfl rfl) hc6 ?_
        exact ih h rfl (hAdd rfl l32_1) (hAdd rfl l32_1)
      · have h := ite_f h hc6
        refine ite_gf (eq_i (x := (z.1 11 j2 2)) (y := x2) (rg_some g4) (rg_some g5) rfl rfl) hc6 ?_
        exact ih h rfl rfl (hAdd rfl l32_1)
set_option maxRecDepth 20000 in
theorem i_X_queuedOf {Xx2 : Int32} {x1 : Nat} {x2 : Int} {z : MemI} {r0 : Int} {a0 : MemI} (h : di_X_queuedOf x1 x2 z = some (r0, a0)) (hx2 : Xx2 = Int32.ofInt x2) : dn_X_queuedOf x1 Xx2 (EE z) = some (Int32.ofInt r0, EE a0) := by
  subst hx2
  unfold di_X_queuedOf at h
  unfold dn_X_queuedOf
  refine i_X_queuedOf_5 (fun Xx3 x3 z3 h hx3 => ?_) FU h rfl l32_0 l32_0
  · subst hx3
    exact ret_i rfl h
end
