section
-- ===== PART A: goes FIRST, ahead of the names: the tables' words, and 'selects' of the private methods out of them =====
/-- a private method of a class that the tables say can be made, by its rows of tables_1 -/
def lw_okq (q : MethodName × Nat) : Prop := (q.1.cls ≠ "java/lang/invoke/MethodHandle" ∧ q.1.cls ≠ "java/lang/invoke/VarHandle") ∧ Cond.instantiable q.1.cls q.2 ∈ tables_1 ∧ Cond.privateMethod q.1 ∈ tables_1 ∧ Cond.instanceMethod q.1 ∈ tables_1
theorem lw_p0 : lw_okq (⟨"StoneCensus$Reader", "advance", "()V"⟩, 10) := ⟨⟨by decide +kernel, by decide +kernel⟩, List.mem_of_getElem? (i := 31) (by decide +kernel), List.mem_of_getElem? (i := 493) (by decide +kernel), List.mem_of_getElem? (i := 494) (by decide +kernel)⟩
theorem lw_p1 : lw_okq (⟨"StoneCensus$Reader", "isLetterAt", "(I)Z"⟩, 10) := ⟨⟨by decide +kernel, by decide +kernel⟩, List.mem_of_getElem? (i := 31) (by decide +kernel), List.mem_of_getElem? (i := 497) (by decide +kernel), List.mem_of_getElem? (i := 498) (by decide +kernel)⟩
theorem lw_p2 : lw_okq (⟨"StoneCensus$Reader", "scanWord", "()V"⟩, 10) := ⟨⟨by decide +kernel, by decide +kernel⟩, List.mem_of_getElem? (i := 31) (by decide +kernel), List.mem_of_getElem? (i := 501) (by decide +kernel), List.mem_of_getElem? (i := 502) (by decide +kernel)⟩
theorem lw_p3 : lw_okq (⟨"StoneCensus$Reader", "refuse", "(I)V"⟩, 10) := ⟨⟨by decide +kernel, by decide +kernel⟩, List.mem_of_getElem? (i := 31) (by decide +kernel), List.mem_of_getElem? (i := 506) (by decide +kernel), List.mem_of_getElem? (i := 507) (by decide +kernel)⟩
theorem lw_p4 : lw_okq (⟨"StoneCensus$Reader", "isDigitAt", "(I)Z"⟩, 10) := ⟨⟨by decide +kernel, by decide +kernel⟩, List.mem_of_getElem? (i := 31) (by decide +kernel), List.mem_of_getElem? (i := 510) (by decide +kernel), List.mem_of_getElem? (i := 511) (by decide +kernel)⟩
theorem lw_p5 : lw_okq (⟨"StoneCensus$Reader", "scanNumber", "()V"⟩, 10) := ⟨⟨by decide +kernel, by decide +kernel⟩, List.mem_of_getElem? (i := 31) (by decide +kernel), List.mem_of_getElem? (i := 514) (by decide +kernel), List.mem_of_getElem? (i := 515) (by decide +kernel)⟩
theorem lw_p6 : lw_okq (⟨"StoneCensus$Reader", "scanSign", "()V"⟩, 10) := ⟨⟨by decide +kernel, by decide +kernel⟩, List.mem_of_getElem? (i := 31) (by decide +kernel), List.mem_of_getElem? (i := 518) (by decide +kernel), List.mem_of_getElem? (i := 519) (by decide +kernel)⟩
theorem lw_p7 : lw_okq (⟨"StoneCensus$Reader", "readLine", "(LStoneCensus$Sheet;)V"⟩, 10) := ⟨⟨by decide +kernel, by decide +kernel⟩, List.mem_of_getElem? (i := 31) (by decide +kernel), List.mem_of_getElem? (i := 522) (by decide +kernel), List.mem_of_getElem? (i := 523) (by decide +kernel)⟩
theorem lw_p8 : lw_okq (⟨"StoneCensus$Reader", "isWord", "(Ljava/lang/String;)Z"⟩, 10) := ⟨⟨by decide +kernel, by decide +kernel⟩, List.mem_of_getElem? (i := 31) (by decide +kernel), List.mem_of_getElem? (i := 527) (by decide +kernel), List.mem_of_getElem? (i := 528) (by decide +kernel)⟩
theorem lw_p9 : lw_okq (⟨"StoneCensus$Reader", "readHouse", "(LStoneCensus$Sheet;)V"⟩, 10) := ⟨⟨by decide +kernel, by decide +kernel⟩, List.mem_of_getElem? (i := 31) (by decide +kernel), List.mem_of_getElem? (i := 579) (by decide +kernel), List.mem_of_getElem? (i := 580) (by decide +kernel)⟩
theorem lw_p10 : lw_okq (⟨"StoneCensus$Reader", "takeName", "(LStoneCensus$Sheet;)J"⟩, 10) := ⟨⟨by decide +kernel, by decide +kernel⟩, List.mem_of_getElem? (i := 31) (by decide +kernel), List.mem_of_getElem? (i := 583) (by decide +kernel), List.mem_of_getElem? (i := 584) (by decide +kernel)⟩
theorem lw_p11 : lw_okq (⟨"StoneCensus$Reader", "standsForItself", "()Z"⟩, 10) := ⟨⟨by decide +kernel, by decide +kernel⟩, List.mem_of_getElem? (i := 31) (by decide +kernel), List.mem_of_getElem? (i := 587) (by decide +kernel), List.mem_of_getElem? (i := 588) (by decide +kernel)⟩
theorem lw_p12 : lw_okq (⟨"StoneCensus$Reader", "takeTold", "(Ljava/lang/String;I)I"⟩, 10) := ⟨⟨by decide +kernel, by decide +kernel⟩, List.mem_of_getElem? (i := 31) (by decide +kernel), List.mem_of_getElem? (i := 609) (by decide +kernel), List.mem_of_getElem? (i := 610) (by decide +kernel)⟩
theorem lw_p13 : lw_okq (⟨"StoneCensus$Reader", "readLaw", "(LStoneCensus$Formula;)V"⟩, 10) := ⟨⟨by decide +kernel, by decide +kernel⟩, List.mem_of_getElem? (i := 31) (by decide +kernel), List.mem_of_getElem? (i := 617) (by decide +kernel), List.mem_of_getElem? (i := 618) (by decide +kernel)⟩
theorem lw_p14 : lw_okq (⟨"StoneCensus$Reader", "readEither", "(LStoneCensus$Formula;I)V"⟩, 10) := ⟨⟨by decide +kernel, by decide +kernel⟩, List.mem_of_getElem? (i := 31) (by decide +kernel), List.mem_of_getElem? (i := 621) (by decide +kernel), List.mem_of_getElem? (i := 622) (by decide +kernel)⟩
theorem lw_p15 : lw_okq (⟨"StoneCensus$Reader", "readBoth", "(LStoneCensus$Formula;I)V"⟩, 10) := ⟨⟨by decide +kernel, by decide +kernel⟩, List.mem_of_getElem? (i := 31) (by decide +kernel), List.mem_of_getElem? (i := 625) (by decide +kernel), List.mem_of_getElem? (i := 626) (by decide +kernel)⟩
def lw_privs_1 : List (MethodName × Nat) := [(⟨"StoneCensus$Reader", "advance", "()V"⟩, 10), (⟨"StoneCensus$Reader", "isLetterAt", "(I)Z"⟩, 10), (⟨"StoneCensus$Reader", "scanWord", "()V"⟩, 10), (⟨"StoneCensus$Reader", "refuse", "(I)V"⟩, 10), (⟨"StoneCensus$Reader", "isDigitAt", "(I)Z"⟩, 10), (⟨"StoneCensus$Reader", "scanNumber", "()V"⟩, 10), (⟨"StoneCensus$Reader", "scanSign", "()V"⟩, 10), (⟨"StoneCensus$Reader", "readLine", "(LStoneCensus$Sheet;)V"⟩, 10), (⟨"StoneCensus$Reader", "isWord", "(Ljava/lang/String;)Z"⟩, 10), (⟨"StoneCensus$Reader", "readHouse", "(LStoneCensus$Sheet;)V"⟩, 10), (⟨"StoneCensus$Reader", "takeName", "(LStoneCensus$Sheet;)J"⟩, 10), (⟨"StoneCensus$Reader", "standsForItself", "()Z"⟩, 10), (⟨"StoneCensus$Reader", "takeTold", "(Ljava/lang/String;I)I"⟩, 10), (⟨"StoneCensus$Reader", "readLaw", "(LStoneCensus$Formula;)V"⟩, 10), (⟨"StoneCensus$Reader", "readEither", "(LStoneCensus$Formula;I)V"⟩, 10), (⟨"StoneCensus$Reader", "readBoth", "(LStoneCensus$Formula;I)V"⟩, 10)]
theorem lw_r1 : ∀ q ∈ lw_privs_1, lw_okq q := List.forall_mem_cons.mpr ⟨lw_p0, List.forall_mem_cons.mpr ⟨lw_p1, List.forall_mem_cons.mpr ⟨lw_p2, List.forall_mem_cons.mpr ⟨lw_p3, List.forall_mem_cons.mpr ⟨lw_p4, List.forall_mem_cons.mpr ⟨lw_p5, List.forall_mem_cons.mpr ⟨lw_p6, List.forall_mem_cons.mpr ⟨lw_p7, List.forall_mem_cons.mpr ⟨lw_p8, List.forall_mem_cons.mpr ⟨lw_p9, List.forall_mem_cons.mpr ⟨lw_p10, List.forall_mem_cons.mpr ⟨lw_p11, List.forall_mem_cons.mpr ⟨lw_p12, List.forall_mem_cons.mpr ⟨lw_p13, List.forall_mem_cons.mpr ⟨lw_p14, List.forall_mem_cons.mpr ⟨lw_p15, fun _ h => absurd h List.not_mem_nil⟩⟩⟩⟩⟩⟩⟩⟩⟩⟩⟩⟩⟩⟩⟩⟩
theorem lw_p16 : lw_okq (⟨"StoneCensus$Reader", "readOne", "(LStoneCensus$Formula;I)V"⟩, 10) := ⟨⟨by decide +kernel, by decide +kernel⟩, List.mem_of_getElem? (i := 31) (by decide +kernel), List.mem_of_getElem? (i := 629) (by decide +kernel), List.mem_of_getElem? (i := 630) (by decide +kernel)⟩
theorem lw_p17 : lw_okq (⟨"StoneCensus$Reader", "readSum", "(LStoneCensus$Formula;I)V"⟩, 10) := ⟨⟨by decide +kernel, by decide +kernel⟩, List.mem_of_getElem? (i := 31) (by decide +kernel), List.mem_of_getElem? (i := 637) (by decide +kernel), List.mem_of_getElem? (i := 638) (by decide +kernel)⟩
theorem lw_p18 : lw_okq (⟨"StoneCensus$Reader", "readTerm", "(LStoneCensus$Formula;I)V"⟩, 10) := ⟨⟨by decide +kernel, by decide +kernel⟩, List.mem_of_getElem? (i := 31) (by decide +kernel), List.mem_of_getElem? (i := 641) (by decide +kernel), List.mem_of_getElem? (i := 642) (by decide +kernel)⟩
theorem lw_p19 : lw_okq (⟨"StoneCensus$Reader", "readUnit", "(LStoneCensus$Formula;I)V"⟩, 10) := ⟨⟨by decide +kernel, by decide +kernel⟩, List.mem_of_getElem? (i := 31) (by decide +kernel), List.mem_of_getElem? (i := 645) (by decide +kernel), List.mem_of_getElem? (i := 646) (by decide +kernel)⟩
theorem lw_p20 : lw_okq (⟨"StoneCensus$Reader", "valueNamed", "()I"⟩, 10) := ⟨⟨by decide +kernel, by decide +kernel⟩, List.mem_of_getElem? (i := 31) (by decide +kernel), List.mem_of_getElem? (i := 649) (by decide +kernel), List.mem_of_getElem? (i := 650) (by decide +kernel)⟩
theorem lw_p21 : lw_okq (⟨"StoneCensus$Reader", "isSign", "(C)Z"⟩, 10) := ⟨⟨by decide +kernel, by decide +kernel⟩, List.mem_of_getElem? (i := 31) (by decide +kernel), List.mem_of_getElem? (i := 653) (by decide +kernel), List.mem_of_getElem? (i := 654) (by decide +kernel)⟩
theorem lw_p22 : lw_okq (⟨"StoneCensus$Reader", "takeSign", "(C)V"⟩, 10) := ⟨⟨by decide +kernel, by decide +kernel⟩, List.mem_of_getElem? (i := 31) (by decide +kernel), List.mem_of_getElem? (i := 657) (by decide +kernel), List.mem_of_getElem? (i := 658) (by decide +kernel)⟩
theorem lw_p23 : lw_okq (⟨"StoneCensus$Reader", "readDraw", "(LStoneCensus$Sheet;)V"⟩, 10) := ⟨⟨by decide +kernel, by decide +kernel⟩, List.mem_of_getElem? (i := 31) (by decide +kernel), List.mem_of_getElem? (i := 661) (by decide +kernel), List.mem_of_getElem? (i := 662) (by decide +kernel)⟩
theorem lw_p24 : lw_okq (⟨"StoneCensus$History", "copyFrom", "([I)V"⟩, 6) := ⟨⟨by decide +kernel, by decide +kernel⟩, List.mem_of_getElem? (i := 157) (by decide +kernel), List.mem_of_getElem? (i := 679) (by decide +kernel), List.mem_of_getElem? (i := 680) (by decide +kernel)⟩
theorem lw_p25 : lw_okq (⟨"StoneCensus", "isHouse", "(I)Z"⟩, 15) := ⟨⟨by decide +kernel, by decide +kernel⟩, List.mem_of_getElem? (i := 23) (by decide +kernel), List.mem_of_getElem? (i := 704) (by decide +kernel), List.mem_of_getElem? (i := 705) (by decide +kernel)⟩
theorem lw_p26 : lw_okq (⟨"StoneCensus$Sheet", "setValues", "(IIIIII)V"⟩, 12) := ⟨⟨by decide +kernel, by decide +kernel⟩, List.mem_of_getElem? (i := 72) (by decide +kernel), List.mem_of_getElem? (i := 725) (by decide +kernel), List.mem_of_getElem? (i := 726) (by decide +kernel)⟩
theorem lw_p27 : lw_okq (⟨"StoneCensus", "sumOf", "(I)I"⟩, 15) := ⟨⟨by decide +kernel, by decide +kernel⟩, List.mem_of_getElem? (i := 23) (by decide +kernel), List.mem_of_getElem? (i := 747) (by decide +kernel), List.mem_of_getElem? (i := 748) (by decide +kernel)⟩
theorem lw_p28 : lw_okq (⟨"StoneCensus", "leaveOne", "(I)V"⟩, 15) := ⟨⟨by decide +kernel, by decide +kernel⟩, List.mem_of_getElem? (i := 23) (by decide +kernel), List.mem_of_getElem? (i := 764) (by decide +kernel), List.mem_of_getElem? (i := 765) (by decide +kernel)⟩
theorem lw_p29 : lw_okq (⟨"StoneCensus$Sheet", "sendMagpie", "([I)V"⟩, 12) := ⟨⟨by decide +kernel, by decide +kernel⟩, List.mem_of_getElem? (i := 72) (by decide +kernel), List.mem_of_getElem? (i := 789) (by decide +kernel), List.mem_of_getElem? (i := 790) (by decide +kernel)⟩
theorem lw_p30 : lw_okq (⟨"StoneCensus$Sheet", "growHouse", "([II)V"⟩, 12) := ⟨⟨by decide +kernel, by decide +kernel⟩, List.mem_of_getElem? (i := 72) (by decide +kernel), List.mem_of_getElem? (i := 794) (by decide +kernel), List.mem_of_getElem? (i := 795) (by decide +kernel)⟩
theorem lw_p31 : lw_okq (⟨"StoneCensus", "allBowls", "([I)I"⟩, 15) := ⟨⟨by decide +kernel, by decide +kernel⟩, List.mem_of_getElem? (i := 23) (by decide +kernel), List.mem_of_getElem? (i := 798) (by decide +kernel), List.mem_of_getElem? (i := 799) (by decide +kernel)⟩
def lw_privs_2 : List (MethodName × Nat) := [(⟨"StoneCensus$Reader", "readOne", "(LStoneCensus$Formula;I)V"⟩, 10), (⟨"StoneCensus$Reader", "readSum", "(LStoneCensus$Formula;I)V"⟩, 10), (⟨"StoneCensus$Reader", "readTerm", "(LStoneCensus$Formula;I)V"⟩, 10), (⟨"StoneCensus$Reader", "readUnit", "(LStoneCensus$Formula;I)V"⟩, 10), (⟨"StoneCensus$Reader", "valueNamed", "()I"⟩, 10), (⟨"StoneCensus$Reader", "isSign", "(C)Z"⟩, 10), (⟨"StoneCensus$Reader", "takeSign", "(C)V"⟩, 10), (⟨"StoneCensus$Reader", "readDraw", "(LStoneCensus$Sheet;)V"⟩, 10), (⟨"StoneCensus$History", "copyFrom", "([I)V"⟩, 6), (⟨"StoneCensus", "isHouse", "(I)Z"⟩, 15), (⟨"StoneCensus$Sheet", "setValues", "(IIIIII)V"⟩, 12), (⟨"StoneCensus", "sumOf", "(I)I"⟩, 15), (⟨"StoneCensus", "leaveOne", "(I)V"⟩, 15), (⟨"StoneCensus$Sheet", "sendMagpie", "([I)V"⟩, 12), (⟨"StoneCensus$Sheet", "growHouse", "([II)V"⟩, 12), (⟨"StoneCensus", "allBowls", "([I)I"⟩, 15)]
theorem lw_r2 : ∀ q ∈ lw_privs_2, lw_okq q := List.forall_mem_cons.mpr ⟨lw_p16, List.forall_mem_cons.mpr ⟨lw_p17, List.forall_mem_cons.mpr ⟨lw_p18, List.forall_mem_cons.mpr ⟨lw_p19, List.forall_mem_cons.mpr ⟨lw_p20, List.forall_mem_cons.mpr ⟨lw_p21, List.forall_mem_cons.mpr ⟨lw_p22, List.forall_mem_cons.mpr ⟨lw_p23, List.forall_mem_cons.mpr ⟨lw_p24, List.forall_mem_cons.mpr ⟨lw_p25, List.forall_mem_cons.mpr ⟨lw_p26, List.forall_mem_cons.mpr ⟨lw_p27, List.forall_mem_cons.mpr ⟨lw_p28, List.forall_mem_cons.mpr ⟨lw_p29, List.forall_mem_cons.mpr ⟨lw_p30, List.forall_mem_cons.mpr ⟨lw_p31, fun _ h => absurd h List.not_mem_nil⟩⟩⟩⟩⟩⟩⟩⟩⟩⟩⟩⟩⟩⟩⟩⟩
theorem lw_p32 : lw_okq (⟨"StoneCensus$History", "copyTo", "([I)V"⟩, 6) := ⟨⟨by decide +kernel, by decide +kernel⟩, List.mem_of_getElem? (i := 157) (by decide +kernel), List.mem_of_getElem? (i := 810) (by decide +kernel), List.mem_of_getElem? (i := 811) (by decide +kernel)⟩
theorem lw_p33 : lw_okq (⟨"StoneCensus", "foresee", "(I)V"⟩, 15) := ⟨⟨by decide +kernel, by decide +kernel⟩, List.mem_of_getElem? (i := 23) (by decide +kernel), List.mem_of_getElem? (i := 833) (by decide +kernel), List.mem_of_getElem? (i := 834) (by decide +kernel)⟩
theorem lw_p34 : lw_okq (⟨"StoneCensus$Hiding", "weighFromTheEnd", "()V"⟩, 4) := ⟨⟨by decide +kernel, by decide +kernel⟩, List.mem_of_getElem? (i := 188) (by decide +kernel), List.mem_of_getElem? (i := 860) (by decide +kernel), List.mem_of_getElem? (i := 861) (by decide +kernel)⟩
theorem lw_p35 : lw_okq (⟨"StoneCensus$Hiding", "cheapestFrom", "(II)I"⟩, 4) := ⟨⟨by decide +kernel, by decide +kernel⟩, List.mem_of_getElem? (i := 188) (by decide +kernel), List.mem_of_getElem? (i := 865) (by decide +kernel), List.mem_of_getElem? (i := 866) (by decide +kernel)⟩
theorem lw_p36 : lw_okq (⟨"StoneCensus$Hiding", "pickFirst", "(II)V"⟩, 4) := ⟨⟨by decide +kernel, by decide +kernel⟩, List.mem_of_getElem? (i := 188) (by decide +kernel), List.mem_of_getElem? (i := 870) (by decide +kernel), List.mem_of_getElem? (i := 871) (by decide +kernel)⟩
theorem lw_p37 : lw_okq (⟨"StoneCensus$Hiding", "firstThatFits", "(III)I"⟩, 4) := ⟨⟨by decide +kernel, by decide +kernel⟩, List.mem_of_getElem? (i := 188) (by decide +kernel), List.mem_of_getElem? (i := 874) (by decide +kernel), List.mem_of_getElem? (i := 875) (by decide +kernel)⟩
theorem lw_p38 : lw_okq (⟨"StoneCensus", "lay", "([II)V"⟩, 15) := ⟨⟨by decide +kernel, by decide +kernel⟩, List.mem_of_getElem? (i := 23) (by decide +kernel), List.mem_of_getElem? (i := 878) (by decide +kernel), List.mem_of_getElem? (i := 879) (by decide +kernel)⟩
theorem lw_p39 : lw_okq (⟨"StoneCensus$Road", "sendFrom", "(IIII)Z"⟩, 9) := ⟨⟨by decide +kernel, by decide +kernel⟩, List.mem_of_getElem? (i := 209) (by decide +kernel), List.mem_of_getElem? (i := 904) (by decide +kernel), List.mem_of_getElem? (i := 905) (by decide +kernel)⟩
theorem lw_p40 : lw_okq (⟨"StoneCensus$Road", "busyWith", "(II)I"⟩, 9) := ⟨⟨by decide +kernel, by decide +kernel⟩, List.mem_of_getElem? (i := 209) (by decide +kernel), List.mem_of_getElem? (i := 908) (by decide +kernel), List.mem_of_getElem? (i := 909) (by decide +kernel)⟩
theorem lw_p41 : lw_okq (⟨"StoneCensus$Road", "putBack", "(III)V"⟩, 9) := ⟨⟨by decide +kernel, by decide +kernel⟩, List.mem_of_getElem? (i := 209) (by decide +kernel), List.mem_of_getElem? (i := 913) (by decide +kernel), List.mem_of_getElem? (i := 914) (by decide +kernel)⟩
theorem lw_p42 : lw_okq (⟨"StoneCensus$Road", "soonestFrom", "(IIII)I"⟩, 9) := ⟨⟨by decide +kernel, by decide +kernel⟩, List.mem_of_getElem? (i := 209) (by decide +kernel), List.mem_of_getElem? (i := 925) (by decide +kernel), List.mem_of_getElem? (i := 926) (by decide +kernel)⟩
theorem lw_p43 : lw_okq (⟨"StoneCensus$Seating", "shareByRests", "(II)V"⟩, 5) := ⟨⟨by decide +kernel, by decide +kernel⟩, List.mem_of_getElem? (i := 245) (by decide +kernel), List.mem_of_getElem? (i := 952) (by decide +kernel), List.mem_of_getElem? (i := 953) (by decide +kernel)⟩
theorem lw_p44 : lw_okq (⟨"StoneCensus$Seating", "greatestRest", "()I"⟩, 5) := ⟨⟨by decide +kernel, by decide +kernel⟩, List.mem_of_getElem? (i := 245) (by decide +kernel), List.mem_of_getElem? (i := 956) (by decide +kernel), List.mem_of_getElem? (i := 957) (by decide +kernel)⟩
theorem lw_p45 : lw_okq (⟨"StoneCensus$Seating", "shareOneByOne", "(I)V"⟩, 5) := ⟨⟨by decide +kernel, by decide +kernel⟩, List.mem_of_getElem? (i := 245) (by decide +kernel), List.mem_of_getElem? (i := 960) (by decide +kernel), List.mem_of_getElem? (i := 961) (by decide +kernel)⟩
theorem lw_p46 : lw_okq (⟨"StoneCensus$Seating", "isChanged", "()Z"⟩, 5) := ⟨⟨by decide +kernel, by decide +kernel⟩, List.mem_of_getElem? (i := 245) (by decide +kernel), List.mem_of_getElem? (i := 973) (by decide +kernel), List.mem_of_getElem? (i := 974) (by decide +kernel)⟩
theorem lw_p47 : lw_okq (⟨"StoneCensus", "fullest", "([I)I"⟩, 15) := ⟨⟨by decide +kernel, by decide +kernel⟩, List.mem_of_getElem? (i := 23) (by decide +kernel), List.mem_of_getElem? (i := 990) (by decide +kernel), List.mem_of_getElem? (i := 991) (by decide +kernel)⟩
def lw_privs_3 : List (MethodName × Nat) := [(⟨"StoneCensus$History", "copyTo", "([I)V"⟩, 6), (⟨"StoneCensus", "foresee", "(I)V"⟩, 15), (⟨"StoneCensus$Hiding", "weighFromTheEnd", "()V"⟩, 4), (⟨"StoneCensus$Hiding", "cheapestFrom", "(II)I"⟩, 4), (⟨"StoneCensus$Hiding", "pickFirst", "(II)V"⟩, 4), (⟨"StoneCensus$Hiding", "firstThatFits", "(III)I"⟩, 4), (⟨"StoneCensus", "lay", "([II)V"⟩, 15), (⟨"StoneCensus$Road", "sendFrom", "(IIII)Z"⟩, 9), (⟨"StoneCensus$Road", "busyWith", "(II)I"⟩, 9), (⟨"StoneCensus$Road", "putBack", "(III)V"⟩, 9), (⟨"StoneCensus$Road", "soonestFrom", "(IIII)I"⟩, 9), (⟨"StoneCensus$Seating", "shareByRests", "(II)V"⟩, 5), (⟨"StoneCensus$Seating", "greatestRest", "()I"⟩, 5), (⟨"StoneCensus$Seating", "shareOneByOne", "(I)V"⟩, 5), (⟨"StoneCensus$Seating", "isChanged", "()Z"⟩, 5), (⟨"StoneCensus", "fullest", "([I)I"⟩, 15)]
theorem lw_r3 : ∀ q ∈ lw_privs_3, lw_okq q := List.forall_mem_cons.mpr ⟨lw_p32, List.forall_mem_cons.mpr ⟨lw_p33, List.forall_mem_cons.mpr ⟨lw_p34, List.forall_mem_cons.mpr ⟨lw_p35, List.forall_mem_cons.mpr ⟨lw_p36, List.forall_mem_cons.mpr ⟨lw_p37, List.forall_mem_cons.mpr ⟨lw_p38, List.forall_mem_cons.mpr ⟨lw_p39, List.forall_mem_cons.mpr ⟨lw_p40, List.forall_mem_cons.mpr ⟨lw_p41, List.forall_mem_cons.mpr ⟨lw_p42, List.forall_mem_cons.mpr ⟨lw_p43, List.forall_mem_cons.mpr ⟨lw_p44, List.forall_mem_cons.mpr ⟨lw_p45, List.forall_mem_cons.mpr ⟨lw_p46, List.forall_mem_cons.mpr ⟨lw_p47, fun _ h => absurd h List.not_mem_nil⟩⟩⟩⟩⟩⟩⟩⟩⟩⟩⟩⟩⟩⟩⟩⟩
theorem lw_p48 : lw_okq (⟨"StoneCensus$Road", "findNeighbours", "()V"⟩, 9) := ⟨⟨by decide +kernel, by decide +kernel⟩, List.mem_of_getElem? (i := 209) (by decide +kernel), List.mem_of_getElem? (i := 1002) (by decide +kernel), List.mem_of_getElem? (i := 1003) (by decide +kernel)⟩
theorem lw_p49 : lw_okq (⟨"StoneCensus$Road", "isBefore", "(II)Z"⟩, 9) := ⟨⟨by decide +kernel, by decide +kernel⟩, List.mem_of_getElem? (i := 209) (by decide +kernel), List.mem_of_getElem? (i := 1006) (by decide +kernel), List.mem_of_getElem? (i := 1007) (by decide +kernel)⟩
theorem lw_p50 : lw_okq (⟨"StoneCensus$Road", "countSteps", "()V"⟩, 9) := ⟨⟨by decide +kernel, by decide +kernel⟩, List.mem_of_getElem? (i := 209) (by decide +kernel), List.mem_of_getElem? (i := 1013) (by decide +kernel), List.mem_of_getElem? (i := 1014) (by decide +kernel)⟩
theorem lw_p51 : lw_okq (⟨"StoneCensus$Road", "fewestFrom", "(I)I"⟩, 9) := ⟨⟨by decide +kernel, by decide +kernel⟩, List.mem_of_getElem? (i := 209) (by decide +kernel), List.mem_of_getElem? (i := 1017) (by decide +kernel), List.mem_of_getElem? (i := 1018) (by decide +kernel)⟩
theorem lw_p52 : lw_okq (⟨"StoneCensus$Road", "afterKnock", "(II)I"⟩, 9) := ⟨⟨by decide +kernel, by decide +kernel⟩, List.mem_of_getElem? (i := 209) (by decide +kernel), List.mem_of_getElem? (i := 1021) (by decide +kernel), List.mem_of_getElem? (i := 1022) (by decide +kernel)⟩
theorem lw_p53 : lw_okq (⟨"StoneCensus$Road", "firstOnTheWay", "(I)I"⟩, 9) := ⟨⟨by decide +kernel, by decide +kernel⟩, List.mem_of_getElem? (i := 209) (by decide +kernel), List.mem_of_getElem? (i := 1025) (by decide +kernel), List.mem_of_getElem? (i := 1026) (by decide +kernel)⟩
theorem lw_p54 : lw_okq (⟨"StoneCensus", "learn", "(I)V"⟩, 15) := ⟨⟨by decide +kernel, by decide +kernel⟩, List.mem_of_getElem? (i := 23) (by decide +kernel), List.mem_of_getElem? (i := 1062) (by decide +kernel), List.mem_of_getElem? (i := 1063) (by decide +kernel)⟩
theorem lw_p55 : lw_okq (⟨"StoneCensus$Truths", "takeReports", "(LStoneCensus$Reports;)I"⟩, 15) := ⟨⟨by decide +kernel, by decide +kernel⟩, List.mem_of_getElem? (i := 302) (by decide +kernel), List.mem_of_getElem? (i := 1074) (by decide +kernel), List.mem_of_getElem? (i := 1075) (by decide +kernel)⟩
theorem lw_p56 : lw_okq (⟨"StoneCensus$Truths", "countFrom", "(I)I"⟩, 15) := ⟨⟨by decide +kernel, by decide +kernel⟩, List.mem_of_getElem? (i := 302) (by decide +kernel), List.mem_of_getElem? (i := 1085) (by decide +kernel), List.mem_of_getElem? (i := 1086) (by decide +kernel)⟩
theorem lw_p57 : lw_okq (⟨"StoneCensus$Truths", "highest", "(I)I"⟩, 15) := ⟨⟨by decide +kernel, by decide +kernel⟩, List.mem_of_getElem? (i := 302) (by decide +kernel), List.mem_of_getElem? (i := 1089) (by decide +kernel), List.mem_of_getElem? (i := 1090) (by decide +kernel)⟩
theorem lw_p58 : lw_okq (⟨"StoneCensus$Truths", "lowest", "(I)I"⟩, 15) := ⟨⟨by decide +kernel, by decide +kernel⟩, List.mem_of_getElem? (i := 302) (by decide +kernel), List.mem_of_getElem? (i := 1093) (by decide +kernel), List.mem_of_getElem? (i := 1094) (by decide +kernel)⟩
theorem lw_p59 : lw_okq (⟨"StoneCensus$Liars", "takeReports", "(LStoneCensus$Reports;)I"⟩, 9) := ⟨⟨by decide +kernel, by decide +kernel⟩, List.mem_of_getElem? (i := 380) (by decide +kernel), List.mem_of_getElem? (i := 1122) (by decide +kernel), List.mem_of_getElem? (i := 1123) (by decide +kernel)⟩
theorem lw_p60 : lw_okq (⟨"StoneCensus$Liars", "countOwed", "()V"⟩, 9) := ⟨⟨by decide +kernel, by decide +kernel⟩, List.mem_of_getElem? (i := 380) (by decide +kernel), List.mem_of_getElem? (i := 1127) (by decide +kernel), List.mem_of_getElem? (i := 1128) (by decide +kernel)⟩
theorem lw_p61 : lw_okq (⟨"StoneCensus$Liars", "leastAgainst", "(I)I"⟩, 9) := ⟨⟨by decide +kernel, by decide +kernel⟩, List.mem_of_getElem? (i := 380) (by decide +kernel), List.mem_of_getElem? (i := 1131) (by decide +kernel), List.mem_of_getElem? (i := 1132) (by decide +kernel)⟩
theorem lw_p62 : lw_okq (⟨"StoneCensus$Liars", "searchFrom", "(II)V"⟩, 9) := ⟨⟨by decide +kernel, by decide +kernel⟩, List.mem_of_getElem? (i := 380) (by decide +kernel), List.mem_of_getElem? (i := 1142) (by decide +kernel), List.mem_of_getElem? (i := 1143) (by decide +kernel)⟩
theorem lw_p63 : lw_okq (⟨"StoneCensus$Liars", "againstWith", "(II)I"⟩, 9) := ⟨⟨by decide +kernel, by decide +kernel⟩, List.mem_of_getElem? (i := 380) (by decide +kernel), List.mem_of_getElem? (i := 1147) (by decide +kernel), List.mem_of_getElem? (i := 1148) (by decide +kernel)⟩
def lw_privs_4 : List (MethodName × Nat) := [(⟨"StoneCensus$Road", "findNeighbours", "()V"⟩, 9), (⟨"StoneCensus$Road", "isBefore", "(II)Z"⟩, 9), (⟨"StoneCensus$Road", "countSteps", "()V"⟩, 9), (⟨"StoneCensus$Road", "fewestFrom", "(I)I"⟩, 9), (⟨"StoneCensus$Road", "afterKnock", "(II)I"⟩, 9), (⟨"StoneCensus$Road", "firstOnTheWay", "(I)I"⟩, 9), (⟨"StoneCensus", "learn", "(I)V"⟩, 15), (⟨"StoneCensus$Truths", "takeReports", "(LStoneCensus$Reports;)I"⟩, 15), (⟨"StoneCensus$Truths", "countFrom", "(I)I"⟩, 15), (⟨"StoneCensus$Truths", "highest", "(I)I"⟩, 15), (⟨"StoneCensus$Truths", "lowest", "(I)I"⟩, 15), (⟨"StoneCensus$Liars", "takeReports", "(LStoneCensus$Reports;)I"⟩, 9), (⟨"StoneCensus$Liars", "countOwed", "()V"⟩, 9), (⟨"StoneCensus$Liars", "leastAgainst", "(I)I"⟩, 9), (⟨"StoneCensus$Liars", "searchFrom", "(II)V"⟩, 9), (⟨"StoneCensus$Liars", "againstWith", "(II)I"⟩, 9)]
theorem lw_r4 : ∀ q ∈ lw_privs_4, lw_okq q := List.forall_mem_cons.mpr ⟨lw_p48, List.forall_mem_cons.mpr ⟨lw_p49, List.forall_mem_cons.mpr ⟨lw_p50, List.forall_mem_cons.mpr ⟨lw_p51, List.forall_mem_cons.mpr ⟨lw_p52, List.forall_mem_cons.mpr ⟨lw_p53, List.forall_mem_cons.mpr ⟨lw_p54, List.forall_mem_cons.mpr ⟨lw_p55, List.forall_mem_cons.mpr ⟨lw_p56, List.forall_mem_cons.mpr ⟨lw_p57, List.forall_mem_cons.mpr ⟨lw_p58, List.forall_mem_cons.mpr ⟨lw_p59, List.forall_mem_cons.mpr ⟨lw_p60, List.forall_mem_cons.mpr ⟨lw_p61, List.forall_mem_cons.mpr ⟨lw_p62, List.forall_mem_cons.mpr ⟨lw_p63, fun _ h => absurd h List.not_mem_nil⟩⟩⟩⟩⟩⟩⟩⟩⟩⟩⟩⟩⟩⟩⟩⟩
theorem lw_p64 : lw_okq (⟨"StoneCensus$Truths", "findTelling", "()I"⟩, 15) := ⟨⟨by decide +kernel, by decide +kernel⟩, List.mem_of_getElem? (i := 302) (by decide +kernel), List.mem_of_getElem? (i := 1173) (by decide +kernel), List.mem_of_getElem? (i := 1174) (by decide +kernel)⟩
theorem lw_p65 : lw_okq (⟨"StoneCensus$Truths", "gatherFrom", "(II)V"⟩, 15) := ⟨⟨by decide +kernel, by decide +kernel⟩, List.mem_of_getElem? (i := 302) (by decide +kernel), List.mem_of_getElem? (i := 1177) (by decide +kernel), List.mem_of_getElem? (i := 1178) (by decide +kernel)⟩
theorem lw_p66 : lw_okq (⟨"StoneCensus$Truths", "tellsApart", "(I)Z"⟩, 15) := ⟨⟨by decide +kernel, by decide +kernel⟩, List.mem_of_getElem? (i := 302) (by decide +kernel), List.mem_of_getElem? (i := 1182) (by decide +kernel), List.mem_of_getElem? (i := 1183) (by decide +kernel)⟩
theorem lw_p67 : lw_okq (⟨"StoneCensus$Truths", "partOf", "(II)I"⟩, 15) := ⟨⟨by decide +kernel, by decide +kernel⟩, List.mem_of_getElem? (i := 302) (by decide +kernel), List.mem_of_getElem? (i := 1186) (by decide +kernel), List.mem_of_getElem? (i := 1187) (by decide +kernel)⟩
theorem lw_p68 : lw_okq (⟨"StoneCensusModel", "four", "(I)V"⟩, 73) := ⟨⟨by decide +kernel, by decide +kernel⟩, List.mem_of_getElem? (i := 1222) (by decide +kernel), List.mem_of_getElem? (i := 1453) (by decide +kernel), List.mem_of_getElem? (i := 1454) (by decide +kernel)⟩
theorem lw_p69 : lw_okq (⟨"StoneCensusModel", "readAll", "()V"⟩, 73) := ⟨⟨by decide +kernel, by decide +kernel⟩, List.mem_of_getElem? (i := 1222) (by decide +kernel), List.mem_of_getElem? (i := 1465) (by decide +kernel), List.mem_of_getElem? (i := 1466) (by decide +kernel)⟩
theorem lw_p70 : lw_okq (⟨"StoneCensusModel", "token", "()V"⟩, 73) := ⟨⟨by decide +kernel, by decide +kernel⟩, List.mem_of_getElem? (i := 1222) (by decide +kernel), List.mem_of_getElem? (i := 1469) (by decide +kernel), List.mem_of_getElem? (i := 1470) (by decide +kernel)⟩
theorem lw_p71 : lw_okq (⟨"StoneCensusModel", "here", "(I)I"⟩, 73) := ⟨⟨by decide +kernel, by decide +kernel⟩, List.mem_of_getElem? (i := 1222) (by decide +kernel), List.mem_of_getElem? (i := 1473) (by decide +kernel), List.mem_of_getElem? (i := 1474) (by decide +kernel)⟩
theorem lw_p72 : lw_okq (⟨"StoneCensusModel", "readLine", "()V"⟩, 73) := ⟨⟨by decide +kernel, by decide +kernel⟩, List.mem_of_getElem? (i := 1222) (by decide +kernel), List.mem_of_getElem? (i := 1486) (by decide +kernel), List.mem_of_getElem? (i := 1487) (by decide +kernel)⟩
theorem lw_p73 : lw_okq (⟨"StoneCensusModel", "isWord", "(J)Z"⟩, 73) := ⟨⟨by decide +kernel, by decide +kernel⟩, List.mem_of_getElem? (i := 1222) (by decide +kernel), List.mem_of_getElem? (i := 1491) (by decide +kernel), List.mem_of_getElem? (i := 1492) (by decide +kernel)⟩
theorem lw_p74 : lw_okq (⟨"StoneCensusModel", "readHouse", "()V"⟩, 73) := ⟨⟨by decide +kernel, by decide +kernel⟩, List.mem_of_getElem? (i := 1222) (by decide +kernel), List.mem_of_getElem? (i := 1495) (by decide +kernel), List.mem_of_getElem? (i := 1496) (by decide +kernel)⟩
theorem lw_p75 : lw_okq (⟨"StoneCensusModel", "isName", "()Z"⟩, 73) := ⟨⟨by decide +kernel, by decide +kernel⟩, List.mem_of_getElem? (i := 1222) (by decide +kernel), List.mem_of_getElem? (i := 1499) (by decide +kernel), List.mem_of_getElem? (i := 1500) (by decide +kernel)⟩
theorem lw_p76 : lw_okq (⟨"StoneCensusModel", "isOwn", "()Z"⟩, 73) := ⟨⟨by decide +kernel, by decide +kernel⟩, List.mem_of_getElem? (i := 1222) (by decide +kernel), List.mem_of_getElem? (i := 1503) (by decide +kernel), List.mem_of_getElem? (i := 1504) (by decide +kernel)⟩
theorem lw_p77 : lw_okq (⟨"StoneCensusModel", "wrong", "(I)V"⟩, 73) := ⟨⟨by decide +kernel, by decide +kernel⟩, List.mem_of_getElem? (i := 1222) (by decide +kernel), List.mem_of_getElem? (i := 1521) (by decide +kernel), List.mem_of_getElem? (i := 1522) (by decide +kernel)⟩
theorem lw_p78 : lw_okq (⟨"StoneCensusModel", "find", "()I"⟩, 73) := ⟨⟨by decide +kernel, by decide +kernel⟩, List.mem_of_getElem? (i := 1222) (by decide +kernel), List.mem_of_getElem? (i := 1525) (by decide +kernel), List.mem_of_getElem? (i := 1526) (by decide +kernel)⟩
theorem lw_p79 : lw_okq (⟨"StoneCensusModel", "told", "(JII)I"⟩, 73) := ⟨⟨by decide +kernel, by decide +kernel⟩, List.mem_of_getElem? (i := 1222) (by decide +kernel), List.mem_of_getElem? (i := 1529) (by decide +kernel), List.mem_of_getElem? (i := 1530) (by decide +kernel)⟩
def lw_privs_5 : List (MethodName × Nat) := [(⟨"StoneCensus$Truths", "findTelling", "()I"⟩, 15), (⟨"StoneCensus$Truths", "gatherFrom", "(II)V"⟩, 15), (⟨"StoneCensus$Truths", "tellsApart", "(I)Z"⟩, 15), (⟨"StoneCensus$Truths", "partOf", "(II)I"⟩, 15), (⟨"StoneCensusModel", "four", "(I)V"⟩, 73), (⟨"StoneCensusModel", "readAll", "()V"⟩, 73), (⟨"StoneCensusModel", "token", "()V"⟩, 73), (⟨"StoneCensusModel", "here", "(I)I"⟩, 73), (⟨"StoneCensusModel", "readLine", "()V"⟩, 73), (⟨"StoneCensusModel", "isWord", "(J)Z"⟩, 73), (⟨"StoneCensusModel", "readHouse", "()V"⟩, 73), (⟨"StoneCensusModel", "isName", "()Z"⟩, 73), (⟨"StoneCensusModel", "isOwn", "()Z"⟩, 73), (⟨"StoneCensusModel", "wrong", "(I)V"⟩, 73), (⟨"StoneCensusModel", "find", "()I"⟩, 73), (⟨"StoneCensusModel", "told", "(JII)I"⟩, 73)]
theorem lw_r5 : ∀ q ∈ lw_privs_5, lw_okq q := List.forall_mem_cons.mpr ⟨lw_p64, List.forall_mem_cons.mpr ⟨lw_p65, List.forall_mem_cons.mpr ⟨lw_p66, List.forall_mem_cons.mpr ⟨lw_p67, List.forall_mem_cons.mpr ⟨lw_p68, List.forall_mem_cons.mpr ⟨lw_p69, List.forall_mem_cons.mpr ⟨lw_p70, List.forall_mem_cons.mpr ⟨lw_p71, List.forall_mem_cons.mpr ⟨lw_p72, List.forall_mem_cons.mpr ⟨lw_p73, List.forall_mem_cons.mpr ⟨lw_p74, List.forall_mem_cons.mpr ⟨lw_p75, List.forall_mem_cons.mpr ⟨lw_p76, List.forall_mem_cons.mpr ⟨lw_p77, List.forall_mem_cons.mpr ⟨lw_p78, List.forall_mem_cons.mpr ⟨lw_p79, fun _ h => absurd h List.not_mem_nil⟩⟩⟩⟩⟩⟩⟩⟩⟩⟩⟩⟩⟩⟩⟩⟩
theorem lw_p80 : lw_okq (⟨"StoneCensusModel", "want", "(J)V"⟩, 73) := ⟨⟨by decide +kernel, by decide +kernel⟩, List.mem_of_getElem? (i := 1222) (by decide +kernel), List.mem_of_getElem? (i := 1533) (by decide +kernel), List.mem_of_getElem? (i := 1534) (by decide +kernel)⟩
theorem lw_p81 : lw_okq (⟨"StoneCensusModel", "toldNumber", "(II)I"⟩, 73) := ⟨⟨by decide +kernel, by decide +kernel⟩, List.mem_of_getElem? (i := 1222) (by decide +kernel), List.mem_of_getElem? (i := 1537) (by decide +kernel), List.mem_of_getElem? (i := 1538) (by decide +kernel)⟩
theorem lw_p82 : lw_okq (⟨"StoneCensusModel", "option", "(J)I"⟩, 73) := ⟨⟨by decide +kernel, by decide +kernel⟩, List.mem_of_getElem? (i := 1222) (by decide +kernel), List.mem_of_getElem? (i := 1541) (by decide +kernel), List.mem_of_getElem? (i := 1542) (by decide +kernel)⟩
theorem lw_p83 : lw_okq (⟨"StoneCensusModel", "formula", "(I)V"⟩, 73) := ⟨⟨by decide +kernel, by decide +kernel⟩, List.mem_of_getElem? (i := 1222) (by decide +kernel), List.mem_of_getElem? (i := 1545) (by decide +kernel), List.mem_of_getElem? (i := 1546) (by decide +kernel)⟩
theorem lw_p84 : lw_okq (⟨"StoneCensusModel", "unit", "()V"⟩, 73) := ⟨⟨by decide +kernel, by decide +kernel⟩, List.mem_of_getElem? (i := 1222) (by decide +kernel), List.mem_of_getElem? (i := 1549) (by decide +kernel), List.mem_of_getElem? (i := 1550) (by decide +kernel)⟩
theorem lw_p85 : lw_okq (⟨"StoneCensusModel", "mayNot", "()Z"⟩, 73) := ⟨⟨by decide +kernel, by decide +kernel⟩, List.mem_of_getElem? (i := 1222) (by decide +kernel), List.mem_of_getElem? (i := 1553) (by decide +kernel), List.mem_of_getElem? (i := 1554) (by decide +kernel)⟩
theorem lw_p86 : lw_okq (⟨"StoneCensusModel", "openUp", "(I)V"⟩, 73) := ⟨⟨by decide +kernel, by decide +kernel⟩, List.mem_of_getElem? (i := 1222) (by decide +kernel), List.mem_of_getElem? (i := 1560) (by decide +kernel), List.mem_of_getElem? (i := 1561) (by decide +kernel)⟩
theorem lw_p87 : lw_okq (⟨"StoneCensusModel", "isFull", "()Z"⟩, 73) := ⟨⟨by decide +kernel, by decide +kernel⟩, List.mem_of_getElem? (i := 1222) (by decide +kernel), List.mem_of_getElem? (i := 1564) (by decide +kernel), List.mem_of_getElem? (i := 1565) (by decide +kernel)⟩
theorem lw_p88 : lw_okq (⟨"StoneCensusModel", "countUnit", "()V"⟩, 73) := ⟨⟨by decide +kernel, by decide +kernel⟩, List.mem_of_getElem? (i := 1222) (by decide +kernel), List.mem_of_getElem? (i := 1568) (by decide +kernel), List.mem_of_getElem? (i := 1569) (by decide +kernel)⟩
theorem lw_p89 : lw_okq (⟨"StoneCensusModel", "asked", "()I"⟩, 73) := ⟨⟨by decide +kernel, by decide +kernel⟩, List.mem_of_getElem? (i := 1222) (by decide +kernel), List.mem_of_getElem? (i := 1572) (by decide +kernel), List.mem_of_getElem? (i := 1573) (by decide +kernel)⟩
theorem lw_p90 : lw_okq (⟨"StoneCensusModel", "add", "(II)V"⟩, 73) := ⟨⟨by decide +kernel, by decide +kernel⟩, List.mem_of_getElem? (i := 1222) (by decide +kernel), List.mem_of_getElem? (i := 1576) (by decide +kernel), List.mem_of_getElem? (i := 1577) (by decide +kernel)⟩
theorem lw_p91 : lw_okq (⟨"StoneCensusModel", "sign", "()I"⟩, 73) := ⟨⟨by decide +kernel, by decide +kernel⟩, List.mem_of_getElem? (i := 1222) (by decide +kernel), List.mem_of_getElem? (i := 1580) (by decide +kernel), List.mem_of_getElem? (i := 1581) (by decide +kernel)⟩
theorem lw_p92 : lw_okq (⟨"StoneCensusModel", "hasBracket", "()Z"⟩, 73) := ⟨⟨by decide +kernel, by decide +kernel⟩, List.mem_of_getElem? (i := 1222) (by decide +kernel), List.mem_of_getElem? (i := 1584) (by decide +kernel), List.mem_of_getElem? (i := 1585) (by decide +kernel)⟩
theorem lw_p93 : lw_okq (⟨"StoneCensusModel", "close", "(I)V"⟩, 73) := ⟨⟨by decide +kernel, by decide +kernel⟩, List.mem_of_getElem? (i := 1222) (by decide +kernel), List.mem_of_getElem? (i := 1588) (by decide +kernel), List.mem_of_getElem? (i := 1589) (by decide +kernel)⟩
theorem lw_p94 : lw_okq (⟨"StoneCensusModel", "hasRelation", "()Z"⟩, 73) := ⟨⟨by decide +kernel, by decide +kernel⟩, List.mem_of_getElem? (i := 1222) (by decide +kernel), List.mem_of_getElem? (i := 1592) (by decide +kernel), List.mem_of_getElem? (i := 1593) (by decide +kernel)⟩
theorem lw_p95 : lw_okq (⟨"StoneCensusModel", "isHouse", "(I)Z"⟩, 73) := ⟨⟨by decide +kernel, by decide +kernel⟩, List.mem_of_getElem? (i := 1222) (by decide +kernel), List.mem_of_getElem? (i := 1604) (by decide +kernel), List.mem_of_getElem? (i := 1605) (by decide +kernel)⟩
def lw_privs_6 : List (MethodName × Nat) := [(⟨"StoneCensusModel", "want", "(J)V"⟩, 73), (⟨"StoneCensusModel", "toldNumber", "(II)I"⟩, 73), (⟨"StoneCensusModel", "option", "(J)I"⟩, 73), (⟨"StoneCensusModel", "formula", "(I)V"⟩, 73), (⟨"StoneCensusModel", "unit", "()V"⟩, 73), (⟨"StoneCensusModel", "mayNot", "()Z"⟩, 73), (⟨"StoneCensusModel", "openUp", "(I)V"⟩, 73), (⟨"StoneCensusModel", "isFull", "()Z"⟩, 73), (⟨"StoneCensusModel", "countUnit", "()V"⟩, 73), (⟨"StoneCensusModel", "asked", "()I"⟩, 73), (⟨"StoneCensusModel", "add", "(II)V"⟩, 73), (⟨"StoneCensusModel", "sign", "()I"⟩, 73), (⟨"StoneCensusModel", "hasBracket", "()Z"⟩, 73), (⟨"StoneCensusModel", "close", "(I)V"⟩, 73), (⟨"StoneCensusModel", "hasRelation", "()Z"⟩, 73), (⟨"StoneCensusModel", "isHouse", "(I)Z"⟩, 73)]
theorem lw_r6 : ∀ q ∈ lw_privs_6, lw_okq q := List.forall_mem_cons.mpr ⟨lw_p80, List.forall_mem_cons.mpr ⟨lw_p81, List.forall_mem_cons.mpr ⟨lw_p82, List.forall_mem_cons.mpr ⟨lw_p83, List.forall_mem_cons.mpr ⟨lw_p84, List.forall_mem_cons.mpr ⟨lw_p85, List.forall_mem_cons.mpr ⟨lw_p86, List.forall_mem_cons.mpr ⟨lw_p87, List.forall_mem_cons.mpr ⟨lw_p88, List.forall_mem_cons.mpr ⟨lw_p89, List.forall_mem_cons.mpr ⟨lw_p90, List.forall_mem_cons.mpr ⟨lw_p91, List.forall_mem_cons.mpr ⟨lw_p92, List.forall_mem_cons.mpr ⟨lw_p93, List.forall_mem_cons.mpr ⟨lw_p94, List.forall_mem_cons.mpr ⟨lw_p95, fun _ h => absurd h List.not_mem_nil⟩⟩⟩⟩⟩⟩⟩⟩⟩⟩⟩⟩⟩⟩⟩⟩
theorem lw_p96 : lw_okq (⟨"StoneCensusModel", "load", "()V"⟩, 73) := ⟨⟨by decide +kernel, by decide +kernel⟩, List.mem_of_getElem? (i := 1222) (by decide +kernel), List.mem_of_getElem? (i := 1611) (by decide +kernel), List.mem_of_getElem? (i := 1612) (by decide +kernel)⟩
theorem lw_p97 : lw_okq (⟨"StoneCensusModel", "stonesOf", "(I)I"⟩, 73) := ⟨⟨by decide +kernel, by decide +kernel⟩, List.mem_of_getElem? (i := 1222) (by decide +kernel), List.mem_of_getElem? (i := 1615) (by decide +kernel), List.mem_of_getElem? (i := 1616) (by decide +kernel)⟩
theorem lw_p98 : lw_okq (⟨"StoneCensusModel", "askOf", "(IIIIII)V"⟩, 73) := ⟨⟨by decide +kernel, by decide +kernel⟩, List.mem_of_getElem? (i := 1222) (by decide +kernel), List.mem_of_getElem? (i := 1619) (by decide +kernel), List.mem_of_getElem? (i := 1620) (by decide +kernel)⟩
theorem lw_p99 : lw_okq (⟨"StoneCensusModel", "worked", "(I)I"⟩, 73) := ⟨⟨by decide +kernel, by decide +kernel⟩, List.mem_of_getElem? (i := 1222) (by decide +kernel), List.mem_of_getElem? (i := 1623) (by decide +kernel), List.mem_of_getElem? (i := 1624) (by decide +kernel)⟩
theorem lw_p100 : lw_okq (⟨"StoneCensusModel", "shows", "(I)Z"⟩, 73) := ⟨⟨by decide +kernel, by decide +kernel⟩, List.mem_of_getElem? (i := 1222) (by decide +kernel), List.mem_of_getElem? (i := 1636) (by decide +kernel), List.mem_of_getElem? (i := 1637) (by decide +kernel)⟩
theorem lw_p101 : lw_okq (⟨"StoneCensusModel", "taxOf", "(II)I"⟩, 73) := ⟨⟨by decide +kernel, by decide +kernel⟩, List.mem_of_getElem? (i := 1222) (by decide +kernel), List.mem_of_getElem? (i := 1640) (by decide +kernel), List.mem_of_getElem? (i := 1641) (by decide +kernel)⟩
theorem lw_p102 : lw_okq (⟨"StoneCensusModel", "partOf", "(II)I"⟩, 73) := ⟨⟨by decide +kernel, by decide +kernel⟩, List.mem_of_getElem? (i := 1222) (by decide +kernel), List.mem_of_getElem? (i := 1648) (by decide +kernel), List.mem_of_getElem? (i := 1649) (by decide +kernel)⟩
theorem lw_p103 : lw_okq (⟨"StoneCensusModel", "act", "()V"⟩, 73) := ⟨⟨by decide +kernel, by decide +kernel⟩, List.mem_of_getElem? (i := 1222) (by decide +kernel), List.mem_of_getElem? (i := 1656) (by decide +kernel), List.mem_of_getElem? (i := 1657) (by decide +kernel)⟩
theorem lw_p104 : lw_okq (⟨"StoneCensusModel", "leaves", "(I)V"⟩, 73) := ⟨⟨by decide +kernel, by decide +kernel⟩, List.mem_of_getElem? (i := 1222) (by decide +kernel), List.mem_of_getElem? (i := 1664) (by decide +kernel), List.mem_of_getElem? (i := 1665) (by decide +kernel)⟩
theorem lw_p105 : lw_okq (⟨"StoneCensusModel", "notMoreHidden", "(I)V"⟩, 73) := ⟨⟨by decide +kernel, by decide +kernel⟩, List.mem_of_getElem? (i := 1222) (by decide +kernel), List.mem_of_getElem? (i := 1668) (by decide +kernel), List.mem_of_getElem? (i := 1669) (by decide +kernel)⟩
theorem lw_p106 : lw_okq (⟨"StoneCensusModel", "keep", "()V"⟩, 73) := ⟨⟨by decide +kernel, by decide +kernel⟩, List.mem_of_getElem? (i := 1222) (by decide +kernel), List.mem_of_getElem? (i := 1672) (by decide +kernel), List.mem_of_getElem? (i := 1673) (by decide +kernel)⟩
theorem lw_p107 : lw_okq (⟨"StoneCensusModel", "goSummer", "()V"⟩, 73) := ⟨⟨by decide +kernel, by decide +kernel⟩, List.mem_of_getElem? (i := 1222) (by decide +kernel), List.mem_of_getElem? (i := 1692) (by decide +kernel), List.mem_of_getElem? (i := 1693) (by decide +kernel)⟩
theorem lw_p108 : lw_okq (⟨"StoneCensusModel", "allBowls", "()I"⟩, 73) := ⟨⟨by decide +kernel, by decide +kernel⟩, List.mem_of_getElem? (i := 1222) (by decide +kernel), List.mem_of_getElem? (i := 1696) (by decide +kernel), List.mem_of_getElem? (i := 1697) (by decide +kernel)⟩
theorem lw_p109 : lw_okq (⟨"StoneCensusModel", "exchange", "(I)V"⟩, 73) := ⟨⟨by decide +kernel, by decide +kernel⟩, List.mem_of_getElem? (i := 1222) (by decide +kernel), List.mem_of_getElem? (i := 1704) (by decide +kernel), List.mem_of_getElem? (i := 1705) (by decide +kernel)⟩
theorem lw_p110 : lw_okq (⟨"StoneCensusModel", "goFar", "(I)V"⟩, 73) := ⟨⟨by decide +kernel, by decide +kernel⟩, List.mem_of_getElem? (i := 1222) (by decide +kernel), List.mem_of_getElem? (i := 1720) (by decide +kernel), List.mem_of_getElem? (i := 1721) (by decide +kernel)⟩
theorem lw_p111 : lw_okq (⟨"StoneCensusModel", "layTaxes", "()V"⟩, 73) := ⟨⟨by decide +kernel, by decide +kernel⟩, List.mem_of_getElem? (i := 1222) (by decide +kernel), List.mem_of_getElem? (i := 1732) (by decide +kernel), List.mem_of_getElem? (i := 1733) (by decide +kernel)⟩
def lw_privs_7 : List (MethodName × Nat) := [(⟨"StoneCensusModel", "load", "()V"⟩, 73), (⟨"StoneCensusModel", "stonesOf", "(I)I"⟩, 73), (⟨"StoneCensusModel", "askOf", "(IIIIII)V"⟩, 73), (⟨"StoneCensusModel", "worked", "(I)I"⟩, 73), (⟨"StoneCensusModel", "shows", "(I)Z"⟩, 73), (⟨"StoneCensusModel", "taxOf", "(II)I"⟩, 73), (⟨"StoneCensusModel", "partOf", "(II)I"⟩, 73), (⟨"StoneCensusModel", "act", "()V"⟩, 73), (⟨"StoneCensusModel", "leaves", "(I)V"⟩, 73), (⟨"StoneCensusModel", "notMoreHidden", "(I)V"⟩, 73), (⟨"StoneCensusModel", "keep", "()V"⟩, 73), (⟨"StoneCensusModel", "goSummer", "()V"⟩, 73), (⟨"StoneCensusModel", "allBowls", "()I"⟩, 73), (⟨"StoneCensusModel", "exchange", "(I)V"⟩, 73), (⟨"StoneCensusModel", "goFar", "(I)V"⟩, 73), (⟨"StoneCensusModel", "layTaxes", "()V"⟩, 73)]
theorem lw_r7 : ∀ q ∈ lw_privs_7, lw_okq q := List.forall_mem_cons.mpr ⟨lw_p96, List.forall_mem_cons.mpr ⟨lw_p97, List.forall_mem_cons.mpr ⟨lw_p98, List.forall_mem_cons.mpr ⟨lw_p99, List.forall_mem_cons.mpr ⟨lw_p100, List.forall_mem_cons.mpr ⟨lw_p101, List.forall_mem_cons.mpr ⟨lw_p102, List.forall_mem_cons.mpr ⟨lw_p103, List.forall_mem_cons.mpr ⟨lw_p104, List.forall_mem_cons.mpr ⟨lw_p105, List.forall_mem_cons.mpr ⟨lw_p106, List.forall_mem_cons.mpr ⟨lw_p107, List.forall_mem_cons.mpr ⟨lw_p108, List.forall_mem_cons.mpr ⟨lw_p109, List.forall_mem_cons.mpr ⟨lw_p110, List.forall_mem_cons.mpr ⟨lw_p111, fun _ h => absurd h List.not_mem_nil⟩⟩⟩⟩⟩⟩⟩⟩⟩⟩⟩⟩⟩⟩⟩⟩
theorem lw_p112 : lw_okq (⟨"StoneCensusModel", "rowsOf", "()I"⟩, 73) := ⟨⟨by decide +kernel, by decide +kernel⟩, List.mem_of_getElem? (i := 1222) (by decide +kernel), List.mem_of_getElem? (i := 1736) (by decide +kernel), List.mem_of_getElem? (i := 1737) (by decide +kernel)⟩
theorem lw_p113 : lw_okq (⟨"StoneCensusModel", "taxOfRow", "(I)I"⟩, 73) := ⟨⟨by decide +kernel, by decide +kernel⟩, List.mem_of_getElem? (i := 1222) (by decide +kernel), List.mem_of_getElem? (i := 1740) (by decide +kernel), List.mem_of_getElem? (i := 1741) (by decide +kernel)⟩
theorem lw_p114 : lw_okq (⟨"StoneCensusModel", "countersRows", "()I"⟩, 73) := ⟨⟨by decide +kernel, by decide +kernel⟩, List.mem_of_getElem? (i := 1222) (by decide +kernel), List.mem_of_getElem? (i := 1752) (by decide +kernel), List.mem_of_getElem? (i := 1753) (by decide +kernel)⟩
theorem lw_p115 : lw_okq (⟨"StoneCensusModel", "layCounters", "(I)I"⟩, 73) := ⟨⟨by decide +kernel, by decide +kernel⟩, List.mem_of_getElem? (i := 1222) (by decide +kernel), List.mem_of_getElem? (i := 1756) (by decide +kernel), List.mem_of_getElem? (i := 1757) (by decide +kernel)⟩
theorem lw_p116 : lw_okq (⟨"StoneCensusModel", "doneAt", "()I"⟩, 73) := ⟨⟨by decide +kernel, by decide +kernel⟩, List.mem_of_getElem? (i := 1222) (by decide +kernel), List.mem_of_getElem? (i := 1760) (by decide +kernel), List.mem_of_getElem? (i := 1761) (by decide +kernel)⟩
theorem lw_p117 : lw_okq (⟨"StoneCensusModel", "without", "(II)I"⟩, 73) := ⟨⟨by decide +kernel, by decide +kernel⟩, List.mem_of_getElem? (i := 1222) (by decide +kernel), List.mem_of_getElem? (i := 1772) (by decide +kernel), List.mem_of_getElem? (i := 1773) (by decide +kernel)⟩
theorem lw_p118 : lw_okq (⟨"StoneCensusModel", "laySeats", "(II)V"⟩, 73) := ⟨⟨by decide +kernel, by decide +kernel⟩, List.mem_of_getElem? (i := 1222) (by decide +kernel), List.mem_of_getElem? (i := 1784) (by decide +kernel), List.mem_of_getElem? (i := 1785) (by decide +kernel)⟩
theorem lw_p119 : lw_okq (⟨"StoneCensusModel", "keepSeats", "()V"⟩, 73) := ⟨⟨by decide +kernel, by decide +kernel⟩, List.mem_of_getElem? (i := 1222) (by decide +kernel), List.mem_of_getElem? (i := 1792) (by decide +kernel), List.mem_of_getElem? (i := 1793) (by decide +kernel)⟩
theorem lw_p120 : lw_okq (⟨"StoneCensusModel", "isOtherSeats", "()Z"⟩, 73) := ⟨⟨by decide +kernel, by decide +kernel⟩, List.mem_of_getElem? (i := 1222) (by decide +kernel), List.mem_of_getElem? (i := 1796) (by decide +kernel), List.mem_of_getElem? (i := 1797) (by decide +kernel)⟩
theorem lw_p121 : lw_okq (⟨"StoneCensusModel", "layRoad", "()V"⟩, 73) := ⟨⟨by decide +kernel, by decide +kernel⟩, List.mem_of_getElem? (i := 1222) (by decide +kernel), List.mem_of_getElem? (i := 1813) (by decide +kernel), List.mem_of_getElem? (i := 1814) (by decide +kernel)⟩
theorem lw_p122 : lw_okq (⟨"StoneCensusModel", "moved", "(I)I"⟩, 73) := ⟨⟨by decide +kernel, by decide +kernel⟩, List.mem_of_getElem? (i := 1222) (by decide +kernel), List.mem_of_getElem? (i := 1817) (by decide +kernel), List.mem_of_getElem? (i := 1818) (by decide +kernel)⟩
theorem lw_p123 : lw_okq (⟨"StoneCensusModel", "layTruths", "(I)V"⟩, 73) := ⟨⟨by decide +kernel, by decide +kernel⟩, List.mem_of_getElem? (i := 1222) (by decide +kernel), List.mem_of_getElem? (i := 1846) (by decide +kernel), List.mem_of_getElem? (i := 1847) (by decide +kernel)⟩
theorem lw_p124 : lw_okq (⟨"StoneCensusModel", "liarsOf", "(III)I"⟩, 73) := ⟨⟨by decide +kernel, by decide +kernel⟩, List.mem_of_getElem? (i := 1222) (by decide +kernel), List.mem_of_getElem? (i := 1850) (by decide +kernel), List.mem_of_getElem? (i := 1851) (by decide +kernel)⟩
theorem lw_p125 : lw_okq (⟨"StoneCensusModel", "headOf", "(II)I"⟩, 73) := ⟨⟨by decide +kernel, by decide +kernel⟩, List.mem_of_getElem? (i := 1222) (by decide +kernel), List.mem_of_getElem? (i := 1854) (by decide +kernel), List.mem_of_getElem? (i := 1855) (by decide +kernel)⟩
theorem lw_p126 : lw_okq (⟨"StoneCensusModel", "mostOf", "(I)I"⟩, 73) := ⟨⟨by decide +kernel, by decide +kernel⟩, List.mem_of_getElem? (i := 1222) (by decide +kernel), List.mem_of_getElem? (i := 1870) (by decide +kernel), List.mem_of_getElem? (i := 1871) (by decide +kernel)⟩
theorem lw_p127 : lw_okq (⟨"StoneCensusModel", "tellsAll", "(II)Z"⟩, 73) := ⟨⟨by decide +kernel, by decide +kernel⟩, List.mem_of_getElem? (i := 1222) (by decide +kernel), List.mem_of_getElem? (i := 1881) (by decide +kernel), List.mem_of_getElem? (i := 1882) (by decide +kernel)⟩
def lw_privs_8 : List (MethodName × Nat) := [(⟨"StoneCensusModel", "rowsOf", "()I"⟩, 73), (⟨"StoneCensusModel", "taxOfRow", "(I)I"⟩, 73), (⟨"StoneCensusModel", "countersRows", "()I"⟩, 73), (⟨"StoneCensusModel", "layCounters", "(I)I"⟩, 73), (⟨"StoneCensusModel", "doneAt", "()I"⟩, 73), (⟨"StoneCensusModel", "without", "(II)I"⟩, 73), (⟨"StoneCensusModel", "laySeats", "(II)V"⟩, 73), (⟨"StoneCensusModel", "keepSeats", "()V"⟩, 73), (⟨"StoneCensusModel", "isOtherSeats", "()Z"⟩, 73), (⟨"StoneCensusModel", "layRoad", "()V"⟩, 73), (⟨"StoneCensusModel", "moved", "(I)I"⟩, 73), (⟨"StoneCensusModel", "layTruths", "(I)V"⟩, 73), (⟨"StoneCensusModel", "liarsOf", "(III)I"⟩, 73), (⟨"StoneCensusModel", "headOf", "(II)I"⟩, 73), (⟨"StoneCensusModel", "mostOf", "(I)I"⟩, 73), (⟨"StoneCensusModel", "tellsAll", "(II)Z"⟩, 73)]
theorem lw_r8 : ∀ q ∈ lw_privs_8, lw_okq q := List.forall_mem_cons.mpr ⟨lw_p112, List.forall_mem_cons.mpr ⟨lw_p113, List.forall_mem_cons.mpr ⟨lw_p114, List.forall_mem_cons.mpr ⟨lw_p115, List.forall_mem_cons.mpr ⟨lw_p116, List.forall_mem_cons.mpr ⟨lw_p117, List.forall_mem_cons.mpr ⟨lw_p118, List.forall_mem_cons.mpr ⟨lw_p119, List.forall_mem_cons.mpr ⟨lw_p120, List.forall_mem_cons.mpr ⟨lw_p121, List.forall_mem_cons.mpr ⟨lw_p122, List.forall_mem_cons.mpr ⟨lw_p123, List.forall_mem_cons.mpr ⟨lw_p124, List.forall_mem_cons.mpr ⟨lw_p125, List.forall_mem_cons.mpr ⟨lw_p126, List.forall_mem_cons.mpr ⟨lw_p127, fun _ h => absurd h List.not_mem_nil⟩⟩⟩⟩⟩⟩⟩⟩⟩⟩⟩⟩⟩⟩⟩⟩
def lw_privs : List (MethodName × Nat) := lw_privs_1 ++ (lw_privs_2 ++ (lw_privs_3 ++ (lw_privs_4 ++ (lw_privs_5 ++ (lw_privs_6 ++ (lw_privs_7 ++ (lw_privs_8)))))))
def lw_tbl : List Cond := k2_sels lw_privs ++ tables_1
theorem lw_privs_ok : ∀ q ∈ lw_privs, lw_okq q := by
  show ∀ q ∈ lw_privs_1 ++ (lw_privs_2 ++ (lw_privs_3 ++ (lw_privs_4 ++ (lw_privs_5 ++ (lw_privs_6 ++ (lw_privs_7 ++ (lw_privs_8))))))), lw_okq q
  exact List.forall_mem_append.mpr ⟨lw_r1, List.forall_mem_append.mpr ⟨lw_r2, List.forall_mem_append.mpr ⟨lw_r3, List.forall_mem_append.mpr ⟨lw_r4, List.forall_mem_append.mpr ⟨lw_r5, List.forall_mem_append.mpr ⟨lw_r6, List.forall_mem_append.mpr ⟨lw_r7, lw_r8⟩⟩⟩⟩⟩⟩⟩
end
section
def RX0 : String := "StoneCensus$Formula"
def TX0 : u_T := fun k => match k with
  | 0 => ("StoneCensus$Formula", "code", "[I", true)
  | 1 => ("StoneCensus$Formula", "stack", "[I", true)
  | 2 => ("StoneCensus$Formula", "length", "I", false)
  | 3 => ("StoneCensus$Formula", "units", "I", false)
  | _ => ("StoneCensus$Formula", "told", "Z", false)
def tyX0 : Nat → FieldType := fun k => match k with
  | 0 => .array .int
  | 1 => .array .int
  | 2 => .int
  | 3 => .int
  | _ => .boolean
theorem nmX0 : ∀ a, a < 5 → ∀ b, b < 5 → a ≠ b → (TX0 a).2.1 ≠ (TX0 b).2.1 := by decide +kernel
theorem tyX0_ok : ∀ k, k < 5 → parseFieldDescriptor (TX0 k).2.2.1 = some (tyX0 k) := by decide +kernel
abbrev cX0_init : ByteArray := prog_2_method_1_code
def yX0_init : MethodName := ⟨RX0, "<init>", "()V"⟩
abbrev cX0_clear : ByteArray := prog_2_method_2_code
def yX0_clear : MethodName := ⟨RX0, "clear", "()V"⟩
abbrev cX0_add : ByteArray := prog_2_method_3_code
def yX0_add : MethodName := ⟨RX0, "add", "(I)V"⟩
abbrev cX0_work : ByteArray := prog_2_method_4_code
def yX0_work : MethodName := ⟨RX0, "work", "([I)I"⟩
abbrev cX0_leaf : ByteArray := prog_2_method_5_code
def yX0_leaf : MethodName := ⟨RX0, "leaf", "(I[I)I"⟩
abbrev cX0_join : ByteArray := prog_2_method_6_code
def yX0_join : MethodName := ⟨RX0, "join", "(III)I"⟩
def RX1 : String := "StoneCensus$Hiding"
def TX1 : u_T := fun k => match k with
  | 0 => ("StoneCensus$Hiding", "taxes", "[[I", true)
  | 1 => ("StoneCensus$Hiding", "cheapest", "[[I", true)
  | 2 => ("StoneCensus$Hiding", "chosen", "[I", true)
  | _ => ("StoneCensus$Hiding", "count", "I", false)
def tyX1 : Nat → FieldType := fun k => match k with
  | 0 => .array (.array .int)
  | 1 => .array (.array .int)
  | 2 => .array .int
  | _ => .int
theorem nmX1 : ∀ a, a < 4 → ∀ b, b < 4 → a ≠ b → (TX1 a).2.1 ≠ (TX1 b).2.1 := by decide +kernel
theorem tyX1_ok : ∀ k, k < 4 → parseFieldDescriptor (TX1 k).2.2.1 = some (tyX1 k) := by decide +kernel
abbrev cX1_init : ByteArray := prog_3_method_1_code
def yX1_init : MethodName := ⟨RX1, "<init>", "()V"⟩
abbrev cX1_look : ByteArray := prog_3_method_2_code
def yX1_look : MethodName := ⟨RX1, "look", "(LStoneCensus$Sheet;[I)V"⟩
abbrev cX1_taxHiding : ByteArray := prog_3_method_3_code
def yX1_taxHiding : MethodName := ⟨RX1, "taxHiding", "(LStoneCensus$Sheet;[III)I"⟩
abbrev cX1_leastTax : ByteArray := prog_3_method_4_code
def yX1_leastTax : MethodName := ⟨RX1, "leastTax", "()I"⟩
abbrev cX1_choose : ByteArray := prog_3_method_5_code
def yX1_choose : MethodName := ⟨RX1, "choose", "(I)I"⟩
abbrev cX1_weighFromTheEnd : ByteArray := prog_3_method_6_code
def yX1_weighFromTheEnd : MethodName := ⟨RX1, "weighFromTheEnd", "()V"⟩
abbrev cX1_cheapestFrom : ByteArray := prog_3_method_7_code
def yX1_cheapestFrom : MethodName := ⟨RX1, "cheapestFrom", "(II)I"⟩
abbrev cX1_pickFirst : ByteArray := prog_3_method_8_code
def yX1_pickFirst : MethodName := ⟨RX1, "pickFirst", "(II)V"⟩
abbrev cX1_firstThatFits : ByteArray := prog_3_method_9_code
def yX1_firstThatFits : MethodName := ⟨RX1, "firstThatFits", "(III)I"⟩
def RX2 : String := "StoneCensus$History"
def TX2 : u_T := fun k => match k with
  | 0 => ("StoneCensus$History", "rows", "[[I", true)
  | 1 => ("StoneCensus$History", "boxes", "[[I", true)
  | 2 => ("StoneCensus$History", "filled", "[Z", true)
  | 3 => ("StoneCensus$History", "oldest", "I", false)
  | 4 => ("StoneCensus$History", "behind", "I", false)
  | _ => ("StoneCensus$History", "ahead", "I", false)
def tyX2 : Nat → FieldType := fun k => match k with
  | 0 => .array (.array .int)
  | 1 => .array (.array .int)
  | 2 => .array .boolean
  | 3 => .int
  | 4 => .int
  | _ => .int
theorem nmX2 : ∀ a, a < 6 → ∀ b, b < 6 → a ≠ b → (TX2 a).2.1 ≠ (TX2 b).2.1 := by decide +kernel
theorem tyX2_ok : ∀ k, k < 6 → parseFieldDescriptor (TX2 k).2.2.1 = some (tyX2 k) := by decide +kernel
abbrev cX2_init : ByteArray := prog_4_method_1_code
def yX2_init : MethodName := ⟨RX2, "<init>", "()V"⟩
abbrev cX2_startFrom : ByteArray := prog_4_method_2_code
def yX2_startFrom : MethodName := ⟨RX2, "startFrom", "([I)V"⟩
abbrev cX2_keep : ByteArray := prog_4_method_3_code
def yX2_keep : MethodName := ⟨RX2, "keep", "([I)V"⟩
abbrev cX2_stepBack : ByteArray := prog_4_method_4_code
def yX2_stepBack : MethodName := ⟨RX2, "stepBack", "([I)Z"⟩
abbrev cX2_stepOn : ByteArray := prog_4_method_5_code
def yX2_stepOn : MethodName := ⟨RX2, "stepOn", "([I)Z"⟩
abbrev cX2_emptyBoxes : ByteArray := prog_4_method_6_code
def yX2_emptyBoxes : MethodName := ⟨RX2, "emptyBoxes", "()V"⟩
abbrev cX2_fillBox : ByteArray := prog_4_method_7_code
def yX2_fillBox : MethodName := ⟨RX2, "fillBox", "(I[I)V"⟩
abbrev cX2_openBox : ByteArray := prog_4_method_8_code
def yX2_openBox : MethodName := ⟨RX2, "openBox", "(I[I)V"⟩
abbrev cX2_copyFrom : ByteArray := prog_4_method_9_code
def yX2_copyFrom : MethodName := ⟨RX2, "copyFrom", "([I)V"⟩
abbrev cX2_copyTo : ByteArray := prog_4_method_10_code
def yX2_copyTo : MethodName := ⟨RX2, "copyTo", "([I)V"⟩
def RX3 : String := "StoneCensus$Liars"
def TX3 : u_T := fun k => match k with
  | 0 => ("StoneCensus$Liars", "against", "[[I", true)
  | 1 => ("StoneCensus$Liars", "sums", "LStoneCensus$Sums;", true)
  | 2 => ("StoneCensus$Liars", "owed", "[I", true)
  | 3 => ("StoneCensus$Liars", "tried", "[I", true)
  | 4 => ("StoneCensus$Liars", "row", "[I", true)
  | 5 => ("StoneCensus$Liars", "fewest", "I", false)
  | 6 => ("StoneCensus$Liars", "houses", "I", false)
  | 7 => ("StoneCensus$Liars", "mask", "I", false)
  | _ => ("StoneCensus$Liars", "ready", "Z", false)
def tyX3 : Nat → FieldType := fun k => match k with
  | 0 => .array (.array .int)
  | 1 => .object "StoneCensus$Sums"
  | 2 => .array .int
  | 3 => .array .int
  | 4 => .array .int
  | 5 => .int
  | 6 => .int
  | 7 => .int
  | _ => .boolean
theorem nmX3 : ∀ a, a < 9 → ∀ b, b < 9 → a ≠ b → (TX3 a).2.1 ≠ (TX3 b).2.1 := by decide +kernel
theorem tyX3_ok : ∀ k, k < 9 → parseFieldDescriptor (TX3 k).2.2.1 = some (tyX3 k) := by decide +kernel
abbrev cX3_init : ByteArray := prog_5_method_1_code
def yX3_init : MethodName := ⟨RX3, "<init>", "()V"⟩
abbrev cX3_forget : ByteArray := prog_5_method_2_code
def yX3_forget : MethodName := ⟨RX3, "forget", "()V"⟩
abbrev cX3_learn : ByteArray := prog_5_method_3_code
def yX3_learn : MethodName := ⟨RX3, "learn", "(LStoneCensus$Reports;II)V"⟩
abbrev cX3_takeReports : ByteArray := prog_5_method_4_code
def yX3_takeReports : MethodName := ⟨RX3, "takeReports", "(LStoneCensus$Reports;)I"⟩
abbrev cX3_countOwed : ByteArray := prog_5_method_5_code
def yX3_countOwed : MethodName := ⟨RX3, "countOwed", "()V"⟩
abbrev cX3_leastAgainst : ByteArray := prog_5_method_6_code
def yX3_leastAgainst : MethodName := ⟨RX3, "leastAgainst", "(I)I"⟩
abbrev cX3_searchFrom : ByteArray := prog_5_method_7_code
def yX3_searchFrom : MethodName := ⟨RX3, "searchFrom", "(II)V"⟩
abbrev cX3_againstWith : ByteArray := prog_5_method_8_code
def yX3_againstWith : MethodName := ⟨RX3, "againstWith", "(II)I"⟩
def RX4 : String := "StoneCensus$Reader"
def TX4 : u_T := fun k => match k with
  | 0 => ("StoneCensus$Reader", "bytes", "[B", true)
  | 1 => ("StoneCensus$Reader", "length", "I", false)
  | 2 => ("StoneCensus$Reader", "fault", "I", false)
  | 3 => ("StoneCensus$Reader", "faultPlace", "I", false)
  | 4 => ("StoneCensus$Reader", "kind", "I", false)
  | 5 => ("StoneCensus$Reader", "start", "I", false)
  | 6 => ("StoneCensus$Reader", "at", "I", false)
  | 7 => ("StoneCensus$Reader", "number", "I", false)
  | 8 => ("StoneCensus$Reader", "name", "J", false)
  | _ => ("StoneCensus$Reader", "sign", "C", false)
def tyX4 : Nat → FieldType := fun k => match k with
  | 0 => .array .byte
  | 1 => .int
  | 2 => .int
  | 3 => .int
  | 4 => .int
  | 5 => .int
  | 6 => .int
  | 7 => .int
  | 8 => .long
  | _ => .char
theorem nmX4 : ∀ a, a < 10 → ∀ b, b < 10 → a ≠ b → (TX4 a).2.1 ≠ (TX4 b).2.1 := by decide +kernel
theorem tyX4_ok : ∀ k, k < 10 → parseFieldDescriptor (TX4 k).2.2.1 = some (tyX4 k) := by decide +kernel
abbrev cX4_init : ByteArray := prog_6_method_1_code
def yX4_init : MethodName := ⟨RX4, "<init>", "()V"⟩
abbrev cX4_append : ByteArray := prog_6_method_2_code
def yX4_append : MethodName := ⟨RX4, "append", "(I)V"⟩
abbrev cX4_readAll : ByteArray := prog_6_method_3_code
def yX4_readAll : MethodName := ⟨RX4, "readAll", "(LStoneCensus$Sheet;)Z"⟩
abbrev cX4_readLine : ByteArray := prog_6_method_4_code
def yX4_readLine : MethodName := ⟨RX4, "readLine", "(LStoneCensus$Sheet;)V"⟩
abbrev cX4_readHouse : ByteArray := prog_6_method_5_code
def yX4_readHouse : MethodName := ⟨RX4, "readHouse", "(LStoneCensus$Sheet;)V"⟩
abbrev cX4_readDraw : ByteArray := prog_6_method_6_code
def yX4_readDraw : MethodName := ⟨RX4, "readDraw", "(LStoneCensus$Sheet;)V"⟩
abbrev cX4_readLaw : ByteArray := prog_6_method_7_code
def yX4_readLaw : MethodName := ⟨RX4, "readLaw", "(LStoneCensus$Formula;)V"⟩
abbrev cX4_readEither : ByteArray := prog_6_method_8_code
def yX4_readEither : MethodName := ⟨RX4, "readEither", "(LStoneCensus$Formula;I)V"⟩
abbrev cX4_readBoth : ByteArray := prog_6_method_9_code
def yX4_readBoth : MethodName := ⟨RX4, "readBoth", "(LStoneCensus$Formula;I)V"⟩
abbrev cX4_readOne : ByteArray := prog_6_method_10_code
def yX4_readOne : MethodName := ⟨RX4, "readOne", "(LStoneCensus$Formula;I)V"⟩
abbrev cX4_readSum : ByteArray := prog_6_method_11_code
def yX4_readSum : MethodName := ⟨RX4, "readSum", "(LStoneCensus$Formula;I)V"⟩
abbrev cX4_readTerm : ByteArray := prog_6_method_12_code
def yX4_readTerm : MethodName := ⟨RX4, "readTerm", "(LStoneCensus$Formula;I)V"⟩
abbrev cX4_readUnit : ByteArray := prog_6_method_13_code
def yX4_readUnit : MethodName := ⟨RX4, "readUnit", "(LStoneCensus$Formula;I)V"⟩
abbrev cX4_valueNamed : ByteArray := prog_6_method_14_code
def yX4_valueNamed : MethodName := ⟨RX4, "valueNamed", "()I"⟩
abbrev cX4_standsForItself : ByteArray := prog_6_method_15_code
def yX4_standsForItself : MethodName := ⟨RX4, "standsForItself", "()Z"⟩
abbrev cX4_takeName : ByteArray := prog_6_method_16_code
def yX4_takeName : MethodName := ⟨RX4, "takeName", "(LStoneCensus$Sheet;)J"⟩
abbrev cX4_takeTold : ByteArray := prog_6_method_17_code
def yX4_takeTold : MethodName := ⟨RX4, "takeTold", "(Ljava/lang/String;I)I"⟩
abbrev cX4_takeSign : ByteArray := prog_6_method_18_code
def yX4_takeSign : MethodName := ⟨RX4, "takeSign", "(C)V"⟩
abbrev cX4_isSign : ByteArray := prog_6_method_19_code
def yX4_isSign : MethodName := ⟨RX4, "isSign", "(C)Z"⟩
abbrev cX4_isWord : ByteArray := prog_6_method_20_code
def yX4_isWord : MethodName := ⟨RX4, "isWord", "(Ljava/lang/String;)Z"⟩
abbrev cX4_refuse : ByteArray := prog_6_method_21_code
def yX4_refuse : MethodName := ⟨RX4, "refuse", "(I)V"⟩
abbrev cX4_advance : ByteArray := prog_6_method_22_code
def yX4_advance : MethodName := ⟨RX4, "advance", "()V"⟩
abbrev cX4_scanWord : ByteArray := prog_6_method_23_code
def yX4_scanWord : MethodName := ⟨RX4, "scanWord", "()V"⟩
abbrev cX4_scanNumber : ByteArray := prog_6_method_24_code
def yX4_scanNumber : MethodName := ⟨RX4, "scanNumber", "()V"⟩
abbrev cX4_scanSign : ByteArray := prog_6_method_25_code
def yX4_scanSign : MethodName := ⟨RX4, "scanSign", "()V"⟩
abbrev cX4_isLetterAt : ByteArray := prog_6_method_26_code
def yX4_isLetterAt : MethodName := ⟨RX4, "isLetterAt", "(I)Z"⟩
abbrev cX4_isDigitAt : ByteArray := prog_6_method_27_code
def yX4_isDigitAt : MethodName := ⟨RX4, "isDigitAt", "(I)Z"⟩
def RX5 : String := "StoneCensus$Reports"
def TX5 : u_T := fun k => match k with
  | 0 => ("StoneCensus$Reports", "sets", "[I", true)
  | 1 => ("StoneCensus$Reports", "leasts", "[I", true)
  | 2 => ("StoneCensus$Reports", "mosts", "[I", true)
  | 3 => ("StoneCensus$Reports", "toldAt", "[I", true)
  | 4 => ("StoneCensus$Reports", "untoldAt", "[I", true)
  | _ => ("StoneCensus$Reports", "count", "I", false)
def tyX5 : Nat → FieldType := fun k => match k with
  | 0 => .array .int
  | 1 => .array .int
  | 2 => .array .int
  | 3 => .array .int
  | 4 => .array .int
  | _ => .int
theorem nmX5 : ∀ a, a < 6 → ∀ b, b < 6 → a ≠ b → (TX5 a).2.1 ≠ (TX5 b).2.1 := by decide +kernel
theorem tyX5_ok : ∀ k, k < 6 → parseFieldDescriptor (TX5 k).2.2.1 = some (tyX5 k) := by decide +kernel
abbrev cX5_init : ByteArray := prog_7_method_1_code
def yX5_init : MethodName := ⟨RX5, "<init>", "()V"⟩
abbrev cX5_add : ByteArray := prog_7_method_2_code
def yX5_add : MethodName := ⟨RX5, "add", "(IIII)I"⟩
abbrev cX5_takeBack : ByteArray := prog_7_method_3_code
def yX5_takeBack : MethodName := ⟨RX5, "takeBack", "(II)Z"⟩
abbrev cX5_countingAt : ByteArray := prog_7_method_4_code
def yX5_countingAt : MethodName := ⟨RX5, "countingAt", "(I)I"⟩
def RX6 : String := "StoneCensus$Road"
def TX6 : u_T := fun k => match k with
  | 0 => ("StoneCensus$Road", "places", "[I", true)
  | 1 => ("StoneCensus$Road", "bowls", "[I", true)
  | 2 => ("StoneCensus$Road", "who", "[I", true)
  | 3 => ("StoneCensus$Road", "furthest", "[I", true)
  | 4 => ("StoneCensus$Road", "counted", "[I", true)
  | 5 => ("StoneCensus$Road", "beside", "[I", true)
  | 6 => ("StoneCensus$Road", "steps", "[I", true)
  | 7 => ("StoneCensus$Road", "knocks", "[I", true)
  | _ => ("StoneCensus$Road", "count", "I", false)
def tyX6 : Nat → FieldType := fun k => match k with
  | 0 => .array .int
  | 1 => .array .int
  | 2 => .array .int
  | 3 => .array .int
  | 4 => .array .int
  | 5 => .array .int
  | 6 => .array .int
  | 7 => .array .int
  | _ => .int
theorem nmX6 : ∀ a, a < 9 → ∀ b, b < 9 → a ≠ b → (TX6 a).2.1 ≠ (TX6 b).2.1 := by decide +kernel
theorem tyX6_ok : ∀ k, k < 9 → parseFieldDescriptor (TX6 k).2.2.1 = some (tyX6 k) := by decide +kernel
abbrev cX6_init : ByteArray := prog_8_method_1_code
def yX6_init : MethodName := ⟨RX6, "<init>", "()V"⟩
abbrev cX6_look : ByteArray := prog_8_method_2_code
def yX6_look : MethodName := ⟨RX6, "look", "(LStoneCensus$Sheet;[I)V"⟩
abbrev cX6_fewestBy : ByteArray := prog_8_method_3_code
def yX6_fewestBy : MethodName := ⟨RX6, "fewestBy", "(I)I"⟩
abbrev cX6_firstNoon : ByteArray := prog_8_method_4_code
def yX6_firstNoon : MethodName := ⟨RX6, "firstNoon", "(I)I"⟩
abbrev cX6_sendFrom : ByteArray := prog_8_method_5_code
def yX6_sendFrom : MethodName := ⟨RX6, "sendFrom", "(IIII)Z"⟩
abbrev cX6_soonestFrom : ByteArray := prog_8_method_6_code
def yX6_soonestFrom : MethodName := ⟨RX6, "soonestFrom", "(IIII)I"⟩
abbrev cX6_busyWith : ByteArray := prog_8_method_7_code
def yX6_busyWith : MethodName := ⟨RX6, "busyWith", "(II)I"⟩
abbrev cX6_putBack : ByteArray := prog_8_method_8_code
def yX6_putBack : MethodName := ⟨RX6, "putBack", "(III)V"⟩
abbrev cX6_planKnocks : ByteArray := prog_8_method_9_code
def yX6_planKnocks : MethodName := ⟨RX6, "planKnocks", "()I"⟩
abbrev cX6_findNeighbours : ByteArray := prog_8_method_10_code
def yX6_findNeighbours : MethodName := ⟨RX6, "findNeighbours", "()V"⟩
abbrev cX6_isBefore : ByteArray := prog_8_method_11_code
def yX6_isBefore : MethodName := ⟨RX6, "isBefore", "(II)Z"⟩
abbrev cX6_bitOf : ByteArray := prog_8_method_12_code
def yX6_bitOf : MethodName := ⟨RX6, "bitOf", "(I)I"⟩
abbrev cX6_countSteps : ByteArray := prog_8_method_13_code
def yX6_countSteps : MethodName := ⟨RX6, "countSteps", "()V"⟩
abbrev cX6_fewestFrom : ByteArray := prog_8_method_14_code
def yX6_fewestFrom : MethodName := ⟨RX6, "fewestFrom", "(I)I"⟩
abbrev cX6_firstOnTheWay : ByteArray := prog_8_method_15_code
def yX6_firstOnTheWay : MethodName := ⟨RX6, "firstOnTheWay", "(I)I"⟩
abbrev cX6_afterKnock : ByteArray := prog_8_method_16_code
def yX6_afterKnock : MethodName := ⟨RX6, "afterKnock", "(II)I"⟩
def RX7 : String := "StoneCensus$Seating"
def TX7 : u_T := fun k => match k with
  | 0 => ("StoneCensus$Seating", "stones", "[I", true)
  | 1 => ("StoneCensus$Seating", "given", "[I", true)
  | 2 => ("StoneCensus$Seating", "rests", "[I", true)
  | 3 => ("StoneCensus$Seating", "other", "[I", true)
  | _ => ("StoneCensus$Seating", "count", "I", false)
def tyX7 : Nat → FieldType := fun k => match k with
  | 0 => .array .int
  | 1 => .array .int
  | 2 => .array .int
  | 3 => .array .int
  | _ => .int
theorem nmX7 : ∀ a, a < 5 → ∀ b, b < 5 → a ≠ b → (TX7 a).2.1 ≠ (TX7 b).2.1 := by decide +kernel
theorem tyX7_ok : ∀ k, k < 5 → parseFieldDescriptor (TX7 k).2.2.1 = some (tyX7 k) := by decide +kernel
abbrev cX7_init : ByteArray := prog_9_method_1_code
def yX7_init : MethodName := ⟨RX7, "<init>", "()V"⟩
abbrev cX7_look : ByteArray := prog_9_method_2_code
def yX7_look : MethodName := ⟨RX7, "look", "([II)V"⟩
abbrev cX7_share : ByteArray := prog_9_method_3_code
def yX7_share : MethodName := ⟨RX7, "share", "(II)V"⟩
abbrev cX7_changedByOne : ByteArray := prog_9_method_4_code
def yX7_changedByOne : MethodName := ⟨RX7, "changedByOne", "(II)I"⟩
abbrev cX7_firstLoser : ByteArray := prog_9_method_5_code
def yX7_firstLoser : MethodName := ⟨RX7, "firstLoser", "(I)I"⟩
abbrev cX7_isChanged : ByteArray := prog_9_method_6_code
def yX7_isChanged : MethodName := ⟨RX7, "isChanged", "()Z"⟩
abbrev cX7_shareByRests : ByteArray := prog_9_method_7_code
def yX7_shareByRests : MethodName := ⟨RX7, "shareByRests", "(II)V"⟩
abbrev cX7_greatestRest : ByteArray := prog_9_method_8_code
def yX7_greatestRest : MethodName := ⟨RX7, "greatestRest", "()I"⟩
abbrev cX7_shareOneByOne : ByteArray := prog_9_method_9_code
def yX7_shareOneByOne : MethodName := ⟨RX7, "shareOneByOne", "(I)V"⟩
def RX8 : String := "StoneCensus$Sheet"
def TX8 : u_T := fun k => match k with
  | 0 => ("StoneCensus$Sheet", "names", "[J", true)
  | 1 => ("StoneCensus$Sheet", "places", "[I", true)
  | 2 => ("StoneCensus$Sheet", "heads", "[I", true)
  | 3 => ("StoneCensus$Sheet", "jams", "[I", true)
  | 4 => ("StoneCensus$Sheet", "habits", "[I", true)
  | 5 => ("StoneCensus$Sheet", "spit", "LStoneCensus$Formula;", true)
  | 6 => ("StoneCensus$Sheet", "tax", "LStoneCensus$Formula;", true)
  | 7 => ("StoneCensus$Sheet", "grow", "LStoneCensus$Formula;", true)
  | 8 => ("StoneCensus$Sheet", "values", "[I", true)
  | 9 => ("StoneCensus$Sheet", "count", "I", false)
  | 10 => ("StoneCensus$Sheet", "draw", "I", false)
  | _ => ("StoneCensus$Sheet", "drawTold", "Z", false)
def tyX8 : Nat → FieldType := fun k => match k with
  | 0 => .array .long
  | 1 => .array .int
  | 2 => .array .int
  | 3 => .array .int
  | 4 => .array .int
  | 5 => .object "StoneCensus$Formula"
  | 6 => .object "StoneCensus$Formula"
  | 7 => .object "StoneCensus$Formula"
  | 8 => .array .int
  | 9 => .int
  | 10 => .int
  | _ => .boolean
theorem nmX8 : ∀ a, a < 12 → ∀ b, b < 12 → a ≠ b → (TX8 a).2.1 ≠ (TX8 b).2.1 := by decide +kernel
theorem tyX8_ok : ∀ k, k < 12 → parseFieldDescriptor (TX8 k).2.2.1 = some (tyX8 k) := by decide +kernel
abbrev cX8_init : ByteArray := prog_10_method_1_code
def yX8_init : MethodName := ⟨RX8, "<init>", "()V"⟩
abbrev cX8_clear : ByteArray := prog_10_method_2_code
def yX8_clear : MethodName := ⟨RX8, "clear", "()V"⟩
abbrev cX8_hasName : ByteArray := prog_10_method_3_code
def yX8_hasName : MethodName := ⟨RX8, "hasName", "(J)Z"⟩
abbrev cX8_addHouse : ByteArray := prog_10_method_4_code
def yX8_addHouse : MethodName := ⟨RX8, "addHouse", "(JIIII)V"⟩
abbrev cX8_unitsOfLaws : ByteArray := prog_10_method_5_code
def yX8_unitsOfLaws : MethodName := ⟨RX8, "unitsOfLaws", "()I"⟩
abbrev cX8_begin : ByteArray := prog_10_method_6_code
def yX8_begin : MethodName := ⟨RX8, "begin", "([I)V"⟩
abbrev cX8_stonesOf : ByteArray := prog_10_method_7_code
def yX8_stonesOf : MethodName := ⟨RX8, "stonesOf", "([II)I"⟩
abbrev cX8_stonesHiding : ByteArray := prog_10_method_8_code
def yX8_stonesHiding : MethodName := ⟨RX8, "stonesHiding", "([III)I"⟩
abbrev cX8_taxOf : ByteArray := prog_10_method_9_code
def yX8_taxOf : MethodName := ⟨RX8, "taxOf", "(III)I"⟩
abbrev cX8_passSummer : ByteArray := prog_10_method_10_code
def yX8_passSummer : MethodName := ⟨RX8, "passSummer", "([I)V"⟩
abbrev cX8_sendMagpie : ByteArray := prog_10_method_11_code
def yX8_sendMagpie : MethodName := ⟨RX8, "sendMagpie", "([I)V"⟩
abbrev cX8_growHouse : ByteArray := prog_10_method_12_code
def yX8_growHouse : MethodName := ⟨RX8, "growHouse", "([II)V"⟩
abbrev cX8_setValues : ByteArray := prog_10_method_13_code
def yX8_setValues : MethodName := ⟨RX8, "setValues", "(IIIIII)V"⟩
def RX9 : String := "StoneCensus$Sums"
def TX9 : u_T := fun k => match k with
  | 0 => ("StoneCensus$Sums", "heads", "[I", true)
  | 1 => ("StoneCensus$Sums", "rests", "[[I", true)
  | _ => ("StoneCensus$Sums", "restCounts", "[I", true)
def tyX9 : Nat → FieldType := fun k => match k with
  | 0 => .array .int
  | 1 => .array (.array .int)
  | _ => .array .int
theorem nmX9 : ∀ a, a < 3 → ∀ b, b < 3 → a ≠ b → (TX9 a).2.1 ≠ (TX9 b).2.1 := by decide +kernel
theorem tyX9_ok : ∀ k, k < 3 → parseFieldDescriptor (TX9 k).2.2.1 = some (tyX9 k) := by decide +kernel
abbrev cX9_init : ByteArray := prog_11_method_1_code
def yX9_init : MethodName := ⟨RX9, "<init>", "()V"⟩
abbrev cX9_list : ByteArray := prog_11_method_2_code
def yX9_list : MethodName := ⟨RX9, "list", "(II)I"⟩
abbrev cX9_setHeads : ByteArray := prog_11_method_3_code
def yX9_setHeads : MethodName := ⟨RX9, "setHeads", "(II)V"⟩
def RX10 : String := "StoneCensus$Truths"
def TX10 : u_T := fun k => match k with
  | 0 => ("StoneCensus$Truths", "tally", "[[I", true)
  | 1 => ("StoneCensus$Truths", "lows", "[I", true)
  | 2 => ("StoneCensus$Truths", "highs", "[I", true)
  | 3 => ("StoneCensus$Truths", "sums", "LStoneCensus$Sums;", true)
  | 4 => ("StoneCensus$Truths", "codes", "[I", true)
  | 5 => ("StoneCensus$Truths", "stamps", "[I", true)
  | 6 => ("StoneCensus$Truths", "codeCount", "I", false)
  | 7 => ("StoneCensus$Truths", "stamp", "I", false)
  | 8 => ("StoneCensus$Truths", "total", "I", false)
  | 9 => ("StoneCensus$Truths", "houses", "I", false)
  | 10 => ("StoneCensus$Truths", "mask", "I", false)
  | 11 => ("StoneCensus$Truths", "telling", "I", false)
  | 12 => ("StoneCensus$Truths", "firstFree", "I", false)
  | 13 => ("StoneCensus$Truths", "ways", "I", false)
  | _ => ("StoneCensus$Truths", "ready", "Z", false)
def tyX10 : Nat → FieldType := fun k => match k with
  | 0 => .array (.array .int)
  | 1 => .array .int
  | 2 => .array .int
  | 3 => .object "StoneCensus$Sums"
  | 4 => .array .int
  | 5 => .array .int
  | 6 => .int
  | 7 => .int
  | 8 => .int
  | 9 => .int
  | 10 => .int
  | 11 => .int
  | 12 => .int
  | 13 => .int
  | _ => .boolean
theorem nmX10 : ∀ a, a < 15 → ∀ b, b < 15 → a ≠ b → (TX10 a).2.1 ≠ (TX10 b).2.1 := by decide +kernel
theorem tyX10_ok : ∀ k, k < 15 → parseFieldDescriptor (TX10 k).2.2.1 = some (tyX10 k) := by decide +kernel
abbrev cX10_init : ByteArray := prog_12_method_1_code
def yX10_init : MethodName := ⟨RX10, "<init>", "()V"⟩
abbrev cX10_forget : ByteArray := prog_12_method_2_code
def yX10_forget : MethodName := ⟨RX10, "forget", "()V"⟩
abbrev cX10_learn : ByteArray := prog_12_method_3_code
def yX10_learn : MethodName := ⟨RX10, "learn", "(LStoneCensus$Reports;II)V"⟩
abbrev cX10_takeReports : ByteArray := prog_12_method_4_code
def yX10_takeReports : MethodName := ⟨RX10, "takeReports", "(LStoneCensus$Reports;)I"⟩
abbrev cX10_countFrom : ByteArray := prog_12_method_5_code
def yX10_countFrom : MethodName := ⟨RX10, "countFrom", "(I)I"⟩
abbrev cX10_lowest : ByteArray := prog_12_method_6_code
def yX10_lowest : MethodName := ⟨RX10, "lowest", "(I)I"⟩
abbrev cX10_highest : ByteArray := prog_12_method_7_code
def yX10_highest : MethodName := ⟨RX10, "highest", "(I)I"⟩
abbrev cX10_fewestIn : ByteArray := prog_12_method_8_code
def yX10_fewestIn : MethodName := ⟨RX10, "fewestIn", "(I)I"⟩
abbrev cX10_mostIn : ByteArray := prog_12_method_9_code
def yX10_mostIn : MethodName := ⟨RX10, "mostIn", "(I)I"⟩
abbrev cX10_leftBySeeing : ByteArray := prog_12_method_10_code
def yX10_leftBySeeing : MethodName := ⟨RX10, "leftBySeeing", "(I)I"⟩
abbrev cX10_bestToSee : ByteArray := prog_12_method_11_code
def yX10_bestToSee : MethodName := ⟨RX10, "bestToSee", "()I"⟩
abbrev cX10_tellingSet : ByteArray := prog_12_method_12_code
def yX10_tellingSet : MethodName := ⟨RX10, "tellingSet", "()I"⟩
abbrev cX10_findTelling : ByteArray := prog_12_method_13_code
def yX10_findTelling : MethodName := ⟨RX10, "findTelling", "()I"⟩
abbrev cX10_gatherFrom : ByteArray := prog_12_method_14_code
def yX10_gatherFrom : MethodName := ⟨RX10, "gatherFrom", "(II)V"⟩
abbrev cX10_tellsApart : ByteArray := prog_12_method_15_code
def yX10_tellsApart : MethodName := ⟨RX10, "tellsApart", "(I)Z"⟩
abbrev cX10_partOf : ByteArray := prog_12_method_16_code
def yX10_partOf : MethodName := ⟨RX10, "partOf", "(II)I"⟩
def RX11 : String := "StoneCensus"
def TX11 : u_T := fun k => match k with
  | 0 => ("StoneCensus", "reader", "LStoneCensus$Reader;", true)
  | 1 => ("StoneCensus", "sheet", "LStoneCensus$Sheet;", false)
  | 2 => ("StoneCensus", "spare", "LStoneCensus$Sheet;", false)
  | 3 => ("StoneCensus", "now", "[I", true)
  | 4 => ("StoneCensus", "trial", "[I", true)
  | 5 => ("StoneCensus", "history", "LStoneCensus$History;", true)
  | 6 => ("StoneCensus", "hiding", "LStoneCensus$Hiding;", true)
  | 7 => ("StoneCensus", "road", "LStoneCensus$Road;", true)
  | 8 => ("StoneCensus", "seating", "LStoneCensus$Seating;", true)
  | 9 => ("StoneCensus", "reports", "LStoneCensus$Reports;", true)
  | 10 => ("StoneCensus", "known", "LStoneCensus$Truths;", true)
  | 11 => ("StoneCensus", "accused", "LStoneCensus$Liars;", true)
  | 12 => ("StoneCensus", "lying", "[I", true)
  | 13 => ("StoneCensus", "lyingCount", "I", false)
  | _ => ("StoneCensus", "time", "I", false)
def tyX11 : Nat → FieldType := fun k => match k with
  | 0 => .object "StoneCensus$Reader"
  | 1 => .object "StoneCensus$Sheet"
  | 2 => .object "StoneCensus$Sheet"
  | 3 => .array .int
  | 4 => .array .int
  | 5 => .object "StoneCensus$History"
  | 6 => .object "StoneCensus$Hiding"
  | 7 => .object "StoneCensus$Road"
  | 8 => .object "StoneCensus$Seating"
  | 9 => .object "StoneCensus$Reports"
  | 10 => .object "StoneCensus$Truths"
  | 11 => .object "StoneCensus$Liars"
  | 12 => .array .int
  | 13 => .int
  | _ => .int
theorem nmX11 : ∀ a, a < 15 → ∀ b, b < 15 → a ≠ b → (TX11 a).2.1 ≠ (TX11 b).2.1 := by decide +kernel
theorem tyX11_ok : ∀ k, k < 15 → parseFieldDescriptor (TX11 k).2.2.1 = some (tyX11 k) := by decide +kernel
abbrev cX11_init : ByteArray := prog_1_method_1_code
def yX11_init : MethodName := ⟨RX11, "<init>", "()V"⟩
abbrev cX11_feed : ByteArray := prog_1_method_2_code
def yX11_feed : MethodName := ⟨RX11, "feed", "(IIIII)I"⟩
abbrev cX11_end : ByteArray := prog_1_method_3_code
def yX11_end : MethodName := ⟨RX11, "end", "(I)I"⟩
abbrev cX11_province : ByteArray := prog_1_method_4_code
def yX11_province : MethodName := ⟨RX11, "province", "()I"⟩
abbrev cX11_fault : ByteArray := prog_1_method_5_code
def yX11_fault : MethodName := ⟨RX11, "fault", "(I)I"⟩
abbrev cX11_house : ByteArray := prog_1_method_6_code
def yX11_house : MethodName := ⟨RX11, "house", "(II)I"⟩
abbrev cX11_sum : ByteArray := prog_1_method_7_code
def yX11_sum : MethodName := ⟨RX11, "sum", "(I)I"⟩
abbrev cX11_comes : ByteArray := prog_1_method_8_code
def yX11_comes : MethodName := ⟨RX11, "comes", "(I)I"⟩
abbrev cX11_goes : ByteArray := prog_1_method_9_code
def yX11_goes : MethodName := ⟨RX11, "goes", "(I)I"⟩
abbrev cX11_moves : ByteArray := prog_1_method_10_code
def yX11_moves : MethodName := ⟨RX11, "moves", "(II)I"⟩
abbrev cX11_hide : ByteArray := prog_1_method_11_code
def yX11_hide : MethodName := ⟨RX11, "hide", "(II)I"⟩
abbrev cX11_steal : ByteArray := prog_1_method_12_code
def yX11_steal : MethodName := ⟨RX11, "steal", "(II)I"⟩
abbrev cX11_summer : ByteArray := prog_1_method_13_code
def yX11_summer : MethodName := ⟨RX11, "summer", "()I"⟩
abbrev cX11_undo : ByteArray := prog_1_method_14_code
def yX11_undo : MethodName := ⟨RX11, "undo", "()Z"⟩
abbrev cX11_redo : ByteArray := prog_1_method_15_code
def yX11_redo : MethodName := ⟨RX11, "redo", "()Z"⟩
abbrev cX11_falses : ByteArray := prog_1_method_16_code
def yX11_falses : MethodName := ⟨RX11, "falses", "()I"⟩
abbrev cX11_will : ByteArray := prog_1_method_17_code
def yX11_will : MethodName := ⟨RX11, "will", "(II)I"⟩
abbrev cX11_bowls : ByteArray := prog_1_method_18_code
def yX11_bowls : MethodName := ⟨RX11, "bowls", "(I)I"⟩
abbrev cX11_leave : ByteArray := prog_1_method_19_code
def yX11_leave : MethodName := ⟨RX11, "leave", "(I)I"⟩
abbrev cX11_least : ByteArray := prog_1_method_20_code
def yX11_least : MethodName := ⟨RX11, "least", "()I"⟩
abbrev cX11_rounds : ByteArray := prog_1_method_21_code
def yX11_rounds : MethodName := ⟨RX11, "rounds", "(I)I"⟩
abbrev cX11_noon : ByteArray := prog_1_method_22_code
def yX11_noon : MethodName := ⟨RX11, "noon", "(I)I"⟩
abbrev cX11_missed : ByteArray := prog_1_method_23_code
def yX11_missed : MethodName := ⟨RX11, "missed", "(I)I"⟩
abbrev cX11_doubled : ByteArray := prog_1_method_24_code
def yX11_doubled : MethodName := ⟨RX11, "doubled", "(I)I"⟩
abbrev cX11_seats : ByteArray := prog_1_method_25_code
def yX11_seats : MethodName := ⟨RX11, "seats", "(III)I"⟩
abbrev cX11_stone : ByteArray := prog_1_method_26_code
def yX11_stone : MethodName := ⟨RX11, "stone", "(II)I"⟩
abbrev cX11_loss : ByteArray := prog_1_method_27_code
def yX11_loss : MethodName := ⟨RX11, "loss", "(I)I"⟩
abbrev cX11_draft : ByteArray := prog_1_method_28_code
def yX11_draft : MethodName := ⟨RX11, "draft", "(II)I"⟩
abbrev cX11_chase : ByteArray := prog_1_method_29_code
def yX11_chase : MethodName := ⟨RX11, "chase", "()I"⟩
abbrev cX11_marks : ByteArray := prog_1_method_30_code
def yX11_marks : MethodName := ⟨RX11, "marks", "(III)I"⟩
abbrev cX11_lies : ByteArray := prog_1_method_31_code
def yX11_lies : MethodName := ⟨RX11, "lies", "(I)I"⟩
abbrev cX11_report : ByteArray := prog_1_method_32_code
def yX11_report : MethodName := ⟨RX11, "report", "(III)I"⟩
abbrev cX11_untell : ByteArray := prog_1_method_33_code
def yX11_untell : MethodName := ⟨RX11, "untell", "(I)Z"⟩
abbrev cX11_later : ByteArray := prog_1_method_34_code
def yX11_later : MethodName := ⟨RX11, "later", "(I)I"⟩
abbrev cX11_truths : ByteArray := prog_1_method_35_code
def yX11_truths : MethodName := ⟨RX11, "truths", "(I)I"⟩
abbrev cX11_range : ByteArray := prog_1_method_36_code
def yX11_range : MethodName := ⟨RX11, "range", "(III)I"⟩
abbrev cX11_liars : ByteArray := prog_1_method_37_code
def yX11_liars : MethodName := ⟨RX11, "liars", "(I)I"⟩
abbrev cX11_knock : ByteArray := prog_1_method_38_code
def yX11_knock : MethodName := ⟨RX11, "knock", "(II)I"⟩
abbrev cX11_tells : ByteArray := prog_1_method_39_code
def yX11_tells : MethodName := ⟨RX11, "tells", "(II)I"⟩
abbrev cX11_odds : ByteArray := prog_1_method_40_code
def yX11_odds : MethodName := ⟨RX11, "odds", "(IIII)I"⟩
abbrev cX11_image : ByteArray := prog_1_method_41_code
def yX11_image : MethodName := ⟨RX11, "image", "(I)I"⟩
abbrev cX11_back : ByteArray := prog_1_method_42_code
def yX11_back : MethodName := ⟨RX11, "back", "(I)I"⟩
abbrev cX11_about : ByteArray := prog_1_method_43_code
def yX11_about : MethodName := ⟨RX11, "about", "(I)I"⟩
abbrev cX11_isHouse : ByteArray := prog_1_method_44_code
def yX11_isHouse : MethodName := ⟨RX11, "isHouse", "(I)Z"⟩
abbrev cX11_isWithin : ByteArray := prog_1_method_45_code
def yX11_isWithin : MethodName := ⟨RX11, "isWithin", "(III)Z"⟩
abbrev cX11_limited : ByteArray := prog_1_method_46_code
def yX11_limited : MethodName := ⟨RX11, "limited", "(III)I"⟩
abbrev cX11_sumOf : ByteArray := prog_1_method_47_code
def yX11_sumOf : MethodName := ⟨RX11, "sumOf", "(I)I"⟩
abbrev cX11_allBowls : ByteArray := prog_1_method_48_code
def yX11_allBowls : MethodName := ⟨RX11, "allBowls", "([I)I"⟩
abbrev cX11_fullest : ByteArray := prog_1_method_49_code
def yX11_fullest : MethodName := ⟨RX11, "fullest", "([I)I"⟩
abbrev cX11_leaveOne : ByteArray := prog_1_method_50_code
def yX11_leaveOne : MethodName := ⟨RX11, "leaveOne", "(I)V"⟩
abbrev cX11_foresee : ByteArray := prog_1_method_51_code
def yX11_foresee : MethodName := ⟨RX11, "foresee", "(I)V"⟩
abbrev cX11_lay : ByteArray := prog_1_method_52_code
def yX11_lay : MethodName := ⟨RX11, "lay", "([II)V"⟩
abbrev cX11_learn : ByteArray := prog_1_method_53_code
def yX11_learn : MethodName := ⟨RX11, "learn", "(I)V"⟩
abbrev cX11_commonDivisor : ByteArray := prog_1_method_54_code
def yX11_commonDivisor : MethodName := ⟨RX11, "commonDivisor", "(II)I"⟩
def RX12 : String := "StoneCensusModel"
def TX12 : u_T := fun k => match k with
  | 0 => ("StoneCensusModel", "tape", "[I", true)
  | 1 => ("StoneCensusModel", "taped", "I", false)
  | 2 => ("StoneCensusModel", "fault", "I", false)
  | 3 => ("StoneCensusModel", "faultPlace", "I", false)
  | 4 => ("StoneCensusModel", "at", "I", false)
  | 5 => ("StoneCensusModel", "size", "I", false)
  | 6 => ("StoneCensusModel", "sort", "I", false)
  | 7 => ("StoneCensusModel", "place", "I", false)
  | 8 => ("StoneCensusModel", "number", "I", false)
  | 9 => ("StoneCensusModel", "word", "J", false)
  | 10 => ("StoneCensusModel", "nName", "[J", true)
  | 11 => ("StoneCensusModel", "nStep", "[I", true)
  | 12 => ("StoneCensusModel", "nArg", "[I", true)
  | 13 => ("StoneCensusModel", "nMany", "[I", true)
  | 14 => ("StoneCensusModel", "step", "[I", true)
  | 15 => ("StoneCensusModel", "arg", "[I", true)
  | 16 => ("StoneCensusModel", "many", "[I", true)
  | 17 => ("StoneCensusModel", "open", "[I", true)
  | 18 => ("StoneCensusModel", "values", "[I", true)
  | 19 => ("StoneCensusModel", "nHasForm", "[Z", true)
  | 20 => ("StoneCensusModel", "hasForm", "[Z", true)
  | 21 => ("StoneCensusModel", "form", "I", false)
  | 22 => ("StoneCensusModel", "opens", "I", false)
  | 23 => ("StoneCensusModel", "nUnits", "I", false)
  | 24 => ("StoneCensusModel", "units", "I", false)
  | 25 => ("StoneCensusModel", "ownUnits", "I", false)
  | 26 => ("StoneCensusModel", "deep", "I", false)
  | 27 => ("StoneCensusModel", "asks", "[I", true)
  | 28 => ("StoneCensusModel", "nPlace", "[I", true)
  | 29 => ("StoneCensusModel", "nHeads", "[I", true)
  | 30 => ("StoneCensusModel", "nJam", "[I", true)
  | 31 => ("StoneCensusModel", "nHabit", "[I", true)
  | 32 => ("StoneCensusModel", "placeOf", "[I", true)
  | 33 => ("StoneCensusModel", "jam", "[I", true)
  | 34 => ("StoneCensusModel", "habit", "[I", true)
  | 35 => ("StoneCensusModel", "nHouses", "I", false)
  | 36 => ("StoneCensusModel", "nDraw", "I", false)
  | 37 => ("StoneCensusModel", "houses", "I", false)
  | 38 => ("StoneCensusModel", "nHasDraw", "Z", false)
  | 39 => ("StoneCensusModel", "now", "[I", true)
  | 40 => ("StoneCensusModel", "heads", "[I", true)
  | 41 => ("StoneCensusModel", "hidden", "[I", true)
  | 42 => ("StoneCensusModel", "bowl", "[I", true)
  | 43 => ("StoneCensusModel", "year", "I", false)
  | 44 => ("StoneCensusModel", "seed", "I", false)
  | 45 => ("StoneCensusModel", "were", "[I", true)
  | 46 => ("StoneCensusModel", "acts", "I", false)
  | 47 => ("StoneCensusModel", "undone", "I", false)
  | 48 => ("StoneCensusModel", "taxBy", "[I", true)
  | 49 => ("StoneCensusModel", "hides", "[I", true)
  | 50 => ("StoneCensusModel", "lies", "[I", true)
  | 51 => ("StoneCensusModel", "lain", "I", false)
  | 52 => ("StoneCensusModel", "members", "I", false)
  | 53 => ("StoneCensusModel", "counter", "[I", true)
  | 54 => ("StoneCensusModel", "seat", "[I", true)
  | 55 => ("StoneCensusModel", "rests", "[I", true)
  | 56 => ("StoneCensusModel", "seatWas", "[I", true)
  | 57 => ("StoneCensusModel", "road", "[I", true)
  | 58 => ("StoneCensusModel", "fromSet", "[I", true)
  | 59 => ("StoneCensusModel", "byKnock", "[I", true)
  | 60 => ("StoneCensusModel", "queue", "[I", true)
  | 61 => ("StoneCensusModel", "repSet", "[I", true)
  | 62 => ("StoneCensusModel", "repLeast", "[I", true)
  | 63 => ("StoneCensusModel", "repMost", "[I", true)
  | 64 => ("StoneCensusModel", "repTold", "[I", true)
  | 65 => ("StoneCensusModel", "repUntold", "[I", true)
  | 66 => ("StoneCensusModel", "reports", "I", false)
  | 67 => ("StoneCensusModel", "time", "I", false)
  | 68 => ("StoneCensusModel", "tally", "[I", true)
  | 69 => ("StoneCensusModel", "truthMany", "I", false)
  | 70 => ("StoneCensusModel", "isSeen", "[Z", true)
  | 71 => ("StoneCensusModel", "hasBox", "[Z", true)
  | _ => ("StoneCensusModel", "boxes", "[I", true)
def tyX12 : Nat → FieldType := fun k => match k with
  | 0 => .array .int
  | 1 => .int
  | 2 => .int
  | 3 => .int
  | 4 => .int
  | 5 => .int
  | 6 => .int
  | 7 => .int
  | 8 => .int
  | 9 => .long
  | 10 => .array .long
  | 11 => .array .int
  | 12 => .array .int
  | 13 => .array .int
  | 14 => .array .int
  | 15 => .array .int
  | 16 => .array .int
  | 17 => .array .int
  | 18 => .array .int
  | 19 => .array .boolean
  | 20 => .array .boolean
  | 21 => .int
  | 22 => .int
  | 23 => .int
  | 24 => .int
  | 25 => .int
  | 26 => .int
  | 27 => .array .int
  | 28 => .array .int
  | 29 => .array .int
  | 30 => .array .int
  | 31 => .array .int
  | 32 => .array .int
  | 33 => .array .int
  | 34 => .array .int
  | 35 => .int
  | 36 => .int
  | 37 => .int
  | 38 => .boolean
  | 39 => .array .int
  | 40 => .array .int
  | 41 => .array .int
  | 42 => .array .int
  | 43 => .int
  | 44 => .int
  | 45 => .array .int
  | 46 => .int
  | 47 => .int
  | 48 => .array .int
  | 49 => .array .int
  | 50 => .array .int
  | 51 => .int
  | 52 => .int
  | 53 => .array .int
  | 54 => .array .int
  | 55 => .array .int
  | 56 => .array .int
  | 57 => .array .int
  | 58 => .array .int
  | 59 => .array .int
  | 60 => .array .int
  | 61 => .array .int
  | 62 => .array .int
  | 63 => .array .int
  | 64 => .array .int
  | 65 => .array .int
  | 66 => .int
  | 67 => .int
  | 68 => .array .int
  | 69 => .int
  | 70 => .array .boolean
  | 71 => .array .boolean
  | _ => .array .int
theorem nmX12 : ∀ a, a < 73 → ∀ b, b < 73 → a ≠ b → (TX12 a).2.1 ≠ (TX12 b).2.1 := by decide +kernel
theorem tyX12_ok : ∀ k, k < 73 → parseFieldDescriptor (TX12 k).2.2.1 = some (tyX12 k) := by decide +kernel
abbrev cX12_init : ByteArray := prog_14_method_1_code
def yX12_init : MethodName := ⟨RX12, "<init>", "()V"⟩
abbrev cX12_feed : ByteArray := prog_14_method_2_code
def yX12_feed : MethodName := ⟨RX12, "feed", "(IIIII)I"⟩
abbrev cX12_four : ByteArray := prog_14_method_3_code
def yX12_four : MethodName := ⟨RX12, "four", "(I)V"⟩
abbrev cX12_end : ByteArray := prog_14_method_4_code
def yX12_end : MethodName := ⟨RX12, "end", "(I)I"⟩
abbrev cX12_here : ByteArray := prog_14_method_5_code
def yX12_here : MethodName := ⟨RX12, "here", "(I)I"⟩
abbrev cX12_isLetter : ByteArray := prog_14_method_6_code
def yX12_isLetter : MethodName := ⟨RX12, "isLetter", "(I)Z"⟩
abbrev cX12_isDigit : ByteArray := prog_14_method_7_code
def yX12_isDigit : MethodName := ⟨RX12, "isDigit", "(I)Z"⟩
abbrev cX12_isSign : ByteArray := prog_14_method_8_code
def yX12_isSign : MethodName := ⟨RX12, "isSign", "(I)Z"⟩
abbrev cX12_token : ByteArray := prog_14_method_9_code
def yX12_token : MethodName := ⟨RX12, "token", "()V"⟩
abbrev cX12_wrong : ByteArray := prog_14_method_10_code
def yX12_wrong : MethodName := ⟨RX12, "wrong", "(I)V"⟩
abbrev cX12_isWord : ByteArray := prog_14_method_11_code
def yX12_isWord : MethodName := ⟨RX12, "isWord", "(J)Z"⟩
abbrev cX12_isOwn : ByteArray := prog_14_method_12_code
def yX12_isOwn : MethodName := ⟨RX12, "isOwn", "()Z"⟩
abbrev cX12_isName : ByteArray := prog_14_method_13_code
def yX12_isName : MethodName := ⟨RX12, "isName", "()Z"⟩
abbrev cX12_want : ByteArray := prog_14_method_14_code
def yX12_want : MethodName := ⟨RX12, "want", "(J)V"⟩
abbrev cX12_toldNumber : ByteArray := prog_14_method_15_code
def yX12_toldNumber : MethodName := ⟨RX12, "toldNumber", "(II)I"⟩
abbrev cX12_told : ByteArray := prog_14_method_16_code
def yX12_told : MethodName := ⟨RX12, "told", "(JII)I"⟩
abbrev cX12_option : ByteArray := prog_14_method_17_code
def yX12_option : MethodName := ⟨RX12, "option", "(J)I"⟩
abbrev cX12_find : ByteArray := prog_14_method_18_code
def yX12_find : MethodName := ⟨RX12, "find", "()I"⟩
abbrev cX12_add : ByteArray := prog_14_method_19_code
def yX12_add : MethodName := ⟨RX12, "add", "(II)V"⟩
abbrev cX12_tight : ByteArray := prog_14_method_20_code
def yX12_tight : MethodName := ⟨RX12, "tight", "(I)I"⟩
abbrev cX12_close : ByteArray := prog_14_method_21_code
def yX12_close : MethodName := ⟨RX12, "close", "(I)V"⟩
abbrev cX12_hasRelation : ByteArray := prog_14_method_22_code
def yX12_hasRelation : MethodName := ⟨RX12, "hasRelation", "()Z"⟩
abbrev cX12_mayNot : ByteArray := prog_14_method_23_code
def yX12_mayNot : MethodName := ⟨RX12, "mayNot", "()Z"⟩
abbrev cX12_asked : ByteArray := prog_14_method_24_code
def yX12_asked : MethodName := ⟨RX12, "asked", "()I"⟩
abbrev cX12_isFull : ByteArray := prog_14_method_25_code
def yX12_isFull : MethodName := ⟨RX12, "isFull", "()Z"⟩
abbrev cX12_countUnit : ByteArray := prog_14_method_26_code
def yX12_countUnit : MethodName := ⟨RX12, "countUnit", "()V"⟩
abbrev cX12_openUp : ByteArray := prog_14_method_27_code
def yX12_openUp : MethodName := ⟨RX12, "openUp", "(I)V"⟩
abbrev cX12_unit : ByteArray := prog_14_method_28_code
def yX12_unit : MethodName := ⟨RX12, "unit", "()V"⟩
abbrev cX12_sign : ByteArray := prog_14_method_29_code
def yX12_sign : MethodName := ⟨RX12, "sign", "()I"⟩
abbrev cX12_hasBracket : ByteArray := prog_14_method_30_code
def yX12_hasBracket : MethodName := ⟨RX12, "hasBracket", "()Z"⟩
abbrev cX12_formula : ByteArray := prog_14_method_31_code
def yX12_formula : MethodName := ⟨RX12, "formula", "(I)V"⟩
abbrev cX12_truth : ByteArray := prog_14_method_32_code
def yX12_truth : MethodName := ⟨RX12, "truth", "(Z)I"⟩
abbrev cX12_done : ByteArray := prog_14_method_33_code
def yX12_done : MethodName := ⟨RX12, "done", "(III)I"⟩
abbrev cX12_askOf : ByteArray := prog_14_method_34_code
def yX12_askOf : MethodName := ⟨RX12, "askOf", "(IIIIII)V"⟩
abbrev cX12_worked : ByteArray := prog_14_method_35_code
def yX12_worked : MethodName := ⟨RX12, "worked", "(I)I"⟩
abbrev cX12_readHouse : ByteArray := prog_14_method_36_code
def yX12_readHouse : MethodName := ⟨RX12, "readHouse", "()V"⟩
abbrev cX12_readLine : ByteArray := prog_14_method_37_code
def yX12_readLine : MethodName := ⟨RX12, "readLine", "()V"⟩
abbrev cX12_readAll : ByteArray := prog_14_method_38_code
def yX12_readAll : MethodName := ⟨RX12, "readAll", "()V"⟩
abbrev cX12_province : ByteArray := prog_14_method_39_code
def yX12_province : MethodName := ⟨RX12, "province", "()I"⟩
abbrev cX12_fault : ByteArray := prog_14_method_40_code
def yX12_fault : MethodName := ⟨RX12, "fault", "(I)I"⟩
abbrev cX12_isIn : ByteArray := prog_14_method_41_code
def yX12_isIn : MethodName := ⟨RX12, "isIn", "(III)Z"⟩
abbrev cX12_bound : ByteArray := prog_14_method_42_code
def yX12_bound : MethodName := ⟨RX12, "bound", "(III)I"⟩
abbrev cX12_isHouse : ByteArray := prog_14_method_43_code
def yX12_isHouse : MethodName := ⟨RX12, "isHouse", "(I)Z"⟩
abbrev cX12_load : ByteArray := prog_14_method_44_code
def yX12_load : MethodName := ⟨RX12, "load", "()V"⟩
abbrev cX12_keep : ByteArray := prog_14_method_45_code
def yX12_keep : MethodName := ⟨RX12, "keep", "()V"⟩
abbrev cX12_stonesOf : ByteArray := prog_14_method_46_code
def yX12_stonesOf : MethodName := ⟨RX12, "stonesOf", "(I)I"⟩
abbrev cX12_taxOf : ByteArray := prog_14_method_47_code
def yX12_taxOf : MethodName := ⟨RX12, "taxOf", "(II)I"⟩
abbrev cX12_shows : ByteArray := prog_14_method_48_code
def yX12_shows : MethodName := ⟨RX12, "shows", "(I)Z"⟩
abbrev cX12_notMoreHidden : ByteArray := prog_14_method_49_code
def yX12_notMoreHidden : MethodName := ⟨RX12, "notMoreHidden", "(I)V"⟩
abbrev cX12_goSummer : ByteArray := prog_14_method_50_code
def yX12_goSummer : MethodName := ⟨RX12, "goSummer", "()V"⟩
abbrev cX12_allBowls : ByteArray := prog_14_method_51_code
def yX12_allBowls : MethodName := ⟨RX12, "allBowls", "()I"⟩
abbrev cX12_house : ByteArray := prog_14_method_52_code
def yX12_house : MethodName := ⟨RX12, "house", "(II)I"⟩
abbrev cX12_partOf : ByteArray := prog_14_method_53_code
def yX12_partOf : MethodName := ⟨RX12, "partOf", "(II)I"⟩
abbrev cX12_sum : ByteArray := prog_14_method_54_code
def yX12_sum : MethodName := ⟨RX12, "sum", "(I)I"⟩
abbrev cX12_act : ByteArray := prog_14_method_55_code
def yX12_act : MethodName := ⟨RX12, "act", "()V"⟩
abbrev cX12_exchange : ByteArray := prog_14_method_56_code
def yX12_exchange : MethodName := ⟨RX12, "exchange", "(I)V"⟩
abbrev cX12_comes : ByteArray := prog_14_method_57_code
def yX12_comes : MethodName := ⟨RX12, "comes", "(I)I"⟩
abbrev cX12_leaves : ByteArray := prog_14_method_58_code
def yX12_leaves : MethodName := ⟨RX12, "leaves", "(I)V"⟩
abbrev cX12_goes : ByteArray := prog_14_method_59_code
def yX12_goes : MethodName := ⟨RX12, "goes", "(I)I"⟩
abbrev cX12_moves : ByteArray := prog_14_method_60_code
def yX12_moves : MethodName := ⟨RX12, "moves", "(II)I"⟩
abbrev cX12_hide : ByteArray := prog_14_method_61_code
def yX12_hide : MethodName := ⟨RX12, "hide", "(II)I"⟩
abbrev cX12_steal : ByteArray := prog_14_method_62_code
def yX12_steal : MethodName := ⟨RX12, "steal", "(II)I"⟩
abbrev cX12_summer : ByteArray := prog_14_method_63_code
def yX12_summer : MethodName := ⟨RX12, "summer", "()I"⟩
abbrev cX12_undo : ByteArray := prog_14_method_64_code
def yX12_undo : MethodName := ⟨RX12, "undo", "()Z"⟩
abbrev cX12_redo : ByteArray := prog_14_method_65_code
def yX12_redo : MethodName := ⟨RX12, "redo", "()Z"⟩
abbrev cX12_falses : ByteArray := prog_14_method_66_code
def yX12_falses : MethodName := ⟨RX12, "falses", "()I"⟩
abbrev cX12_goFar : ByteArray := prog_14_method_67_code
def yX12_goFar : MethodName := ⟨RX12, "goFar", "(I)V"⟩
abbrev cX12_will : ByteArray := prog_14_method_68_code
def yX12_will : MethodName := ⟨RX12, "will", "(II)I"⟩
abbrev cX12_bowls : ByteArray := prog_14_method_69_code
def yX12_bowls : MethodName := ⟨RX12, "bowls", "(I)I"⟩
abbrev cX12_layTaxes : ByteArray := prog_14_method_70_code
def yX12_layTaxes : MethodName := ⟨RX12, "layTaxes", "()V"⟩
abbrev cX12_rowsOf : ByteArray := prog_14_method_71_code
def yX12_rowsOf : MethodName := ⟨RX12, "rowsOf", "()I"⟩
abbrev cX12_taxOfRow : ByteArray := prog_14_method_72_code
def yX12_taxOfRow : MethodName := ⟨RX12, "taxOfRow", "(I)I"⟩
abbrev cX12_leave : ByteArray := prog_14_method_73_code
def yX12_leave : MethodName := ⟨RX12, "leave", "(I)I"⟩
abbrev cX12_least : ByteArray := prog_14_method_74_code
def yX12_least : MethodName := ⟨RX12, "least", "()I"⟩
abbrev cX12_layCounters : ByteArray := prog_14_method_75_code
def yX12_layCounters : MethodName := ⟨RX12, "layCounters", "(I)I"⟩
abbrev cX12_doneAt : ByteArray := prog_14_method_76_code
def yX12_doneAt : MethodName := ⟨RX12, "doneAt", "()I"⟩
abbrev cX12_countersRows : ByteArray := prog_14_method_77_code
def yX12_countersRows : MethodName := ⟨RX12, "countersRows", "()I"⟩
abbrev cX12_rounds : ByteArray := prog_14_method_78_code
def yX12_rounds : MethodName := ⟨RX12, "rounds", "(I)I"⟩
abbrev cX12_noon : ByteArray := prog_14_method_79_code
def yX12_noon : MethodName := ⟨RX12, "noon", "(I)I"⟩
abbrev cX12_without : ByteArray := prog_14_method_80_code
def yX12_without : MethodName := ⟨RX12, "without", "(II)I"⟩
abbrev cX12_missed : ByteArray := prog_14_method_81_code
def yX12_missed : MethodName := ⟨RX12, "missed", "(I)I"⟩
abbrev cX12_doubled : ByteArray := prog_14_method_82_code
def yX12_doubled : MethodName := ⟨RX12, "doubled", "(I)I"⟩
abbrev cX12_laySeats : ByteArray := prog_14_method_83_code
def yX12_laySeats : MethodName := ⟨RX12, "laySeats", "(II)V"⟩
abbrev cX12_seats : ByteArray := prog_14_method_84_code
def yX12_seats : MethodName := ⟨RX12, "seats", "(III)I"⟩
abbrev cX12_keepSeats : ByteArray := prog_14_method_85_code
def yX12_keepSeats : MethodName := ⟨RX12, "keepSeats", "()V"⟩
abbrev cX12_isOtherSeats : ByteArray := prog_14_method_86_code
def yX12_isOtherSeats : MethodName := ⟨RX12, "isOtherSeats", "()Z"⟩
abbrev cX12_stone : ByteArray := prog_14_method_87_code
def yX12_stone : MethodName := ⟨RX12, "stone", "(II)I"⟩
abbrev cX12_loss : ByteArray := prog_14_method_88_code
def yX12_loss : MethodName := ⟨RX12, "loss", "(I)I"⟩
abbrev cX12_draft : ByteArray := prog_14_method_89_code
def yX12_draft : MethodName := ⟨RX12, "draft", "(II)I"⟩
abbrev cX12_layRoad : ByteArray := prog_14_method_90_code
def yX12_layRoad : MethodName := ⟨RX12, "layRoad", "()V"⟩
abbrev cX12_moved : ByteArray := prog_14_method_91_code
def yX12_moved : MethodName := ⟨RX12, "moved", "(I)I"⟩
abbrev cX12_chase : ByteArray := prog_14_method_92_code
def yX12_chase : MethodName := ⟨RX12, "chase", "()I"⟩
abbrev cX12_marks : ByteArray := prog_14_method_93_code
def yX12_marks : MethodName := ⟨RX12, "marks", "(III)I"⟩
abbrev cX12_lies : ByteArray := prog_14_method_94_code
def yX12_lies : MethodName := ⟨RX12, "lies", "(I)I"⟩
abbrev cX12_report : ByteArray := prog_14_method_95_code
def yX12_report : MethodName := ⟨RX12, "report", "(III)I"⟩
abbrev cX12_untell : ByteArray := prog_14_method_96_code
def yX12_untell : MethodName := ⟨RX12, "untell", "(I)Z"⟩
abbrev cX12_later : ByteArray := prog_14_method_97_code
def yX12_later : MethodName := ⟨RX12, "later", "(I)I"⟩
abbrev cX12_headOf : ByteArray := prog_14_method_98_code
def yX12_headOf : MethodName := ⟨RX12, "headOf", "(II)I"⟩
abbrev cX12_liarsOf : ByteArray := prog_14_method_99_code
def yX12_liarsOf : MethodName := ⟨RX12, "liarsOf", "(III)I"⟩
abbrev cX12_layTruths : ByteArray := prog_14_method_100_code
def yX12_layTruths : MethodName := ⟨RX12, "layTruths", "(I)V"⟩
abbrev cX12_truths : ByteArray := prog_14_method_101_code
def yX12_truths : MethodName := ⟨RX12, "truths", "(I)I"⟩
abbrev cX12_range : ByteArray := prog_14_method_102_code
def yX12_range : MethodName := ⟨RX12, "range", "(III)I"⟩
abbrev cX12_liars : ByteArray := prog_14_method_103_code
def yX12_liars : MethodName := ⟨RX12, "liars", "(I)I"⟩
abbrev cX12_mostOf : ByteArray := prog_14_method_104_code
def yX12_mostOf : MethodName := ⟨RX12, "mostOf", "(I)I"⟩
abbrev cX12_knock : ByteArray := prog_14_method_105_code
def yX12_knock : MethodName := ⟨RX12, "knock", "(II)I"⟩
abbrev cX12_tellsAll : ByteArray := prog_14_method_106_code
def yX12_tellsAll : MethodName := ⟨RX12, "tellsAll", "(II)Z"⟩
abbrev cX12_membersOf : ByteArray := prog_14_method_107_code
def yX12_membersOf : MethodName := ⟨RX12, "membersOf", "(I)I"⟩
abbrev cX12_tells : ByteArray := prog_14_method_108_code
def yX12_tells : MethodName := ⟨RX12, "tells", "(II)I"⟩
abbrev cX12_common : ByteArray := prog_14_method_109_code
def yX12_common : MethodName := ⟨RX12, "common", "(II)I"⟩
abbrev cX12_odds : ByteArray := prog_14_method_110_code
def yX12_odds : MethodName := ⟨RX12, "odds", "(IIII)I"⟩
abbrev cX12_isBox : ByteArray := prog_14_method_111_code
def yX12_isBox : MethodName := ⟨RX12, "isBox", "(I)Z"⟩
abbrev cX12_image : ByteArray := prog_14_method_112_code
def yX12_image : MethodName := ⟨RX12, "image", "(I)I"⟩
abbrev cX12_back : ByteArray := prog_14_method_113_code
def yX12_back : MethodName := ⟨RX12, "back", "(I)I"⟩
abbrev cX12_about : ByteArray := prog_14_method_114_code
def yX12_about : MethodName := ⟨RX12, "about", "(I)I"⟩
def RJ6 : String := "java/lang/Integer"
abbrev cJ6_bitCount_0f7a4 : ByteArray := prog_15_method_49_code
def yJ6_bitCount_0f7a4 : MethodName := ⟨RJ6, "bitCount", "(I)I"⟩
def RJ9 : String := "java/lang/Math"
abbrev cJ9_max_7cf53 : ByteArray := prog_16_method_65_code
def yJ9_max_7cf53 : MethodName := ⟨RJ9, "max", "(II)I"⟩
abbrev cJ9_min_7cf53 : ByteArray := prog_16_method_69_code
def yJ9_min_7cf53 : MethodName := ⟨RJ9, "min", "(II)I"⟩
def RJ0 : String := "java/lang/String"
abbrev cJ0_length_8abf5 : ByteArray := prog_17_method_54_code
def yJ0_length_8abf5 : MethodName := ⟨RJ0, "length", "()I"⟩
abbrev cJ0_charAt_5068e : ByteArray := prog_17_method_56_code
def yJ0_charAt_5068e : MethodName := ⟨RJ0, "charAt", "(I)C"⟩
abbrev cJ0_coder_7d493 : ByteArray := prog_17_method_152_code
def yJ0_coder_7d493 : MethodName := ⟨RJ0, "coder", "()B"⟩
abbrev cJ0_isLatin1_aae02 : ByteArray := prog_17_method_154_code
def yJ0_isLatin1_aae02 : MethodName := ⟨RJ0, "isLatin1", "()Z"⟩
abbrev cJ0_checkIndex_df160 : ByteArray := prog_17_method_155_code
def yJ0_checkIndex_df160 : MethodName := ⟨RJ0, "checkIndex", "(II)V"⟩
def RJ1 : String := "java/lang/StringLatin1"
abbrev cJ1_charAt_3b067 : ByteArray := prog_18_method_2_code
def yJ1_charAt_3b067 : MethodName := ⟨RJ1, "charAt", "([BI)C"⟩
def RJ2 : String := "java/lang/StringUTF16"
abbrev cJ2_getChar_3b067 : ByteArray := prog_19_method_5_code
def yJ2_getChar_3b067 : MethodName := ⟨RJ2, "getChar", "([BI)C"⟩
abbrev cJ2_length_9d52b : ByteArray := prog_19_method_6_code
def yJ2_length_9d52b : MethodName := ⟨RJ2, "length", "([B)I"⟩
abbrev cJ2_charAt_3b067 : ByteArray := prog_19_method_83_code
def yJ2_charAt_3b067 : MethodName := ⟨RJ2, "charAt", "([BI)C"⟩
abbrev cJ2_checkIndex_2214a : ByteArray := prog_19_method_91_code
def yJ2_checkIndex_2214a : MethodName := ⟨RJ2, "checkIndex", "(I[B)V"⟩
def RJ10 : String := "java/lang/System"
def RJ7 : String := "java/util/Arrays"
abbrev cJ7_fill_53178 : ByteArray := prog_21_method_103_code
def yJ7_fill_53178 : MethodName := ⟨RJ7, "fill", "([II)V"⟩
def RJ3 : String := "jdk/internal/util/Preconditions"
abbrev cJ3_checkIndex_8e157 : ByteArray := prog_22_method_11_code
def yJ3_checkIndex_8e157 : MethodName := ⟨RJ3, "checkIndex", "(IILjava/util/function/BiFunction;)I"⟩
def RL : String := "StoneCensusLaw"
abbrev cL_law : ByteArray := code
def yL_law : MethodName := ⟨RL, "law", "([I)Z"⟩
abbrev vwCl : List vw_C := [(RX0, TX0, 5), (RX1, TX1, 4), (RX2, TX2, 6), (RX3, TX3, 9), (RX4, TX4, 10), (RX5, TX5, 6), (RX6, TX6, 9), (RX7, TX7, 5), (RX8, TX8, 12), (RX9, TX9, 3), (RX10, TX10, 15), (RX11, TX11, 15), (RX12, TX12, 73)]
end
section
/-- the words that stay as they are while classes are linked -/
def mTb : List Cond := lw_tbl.filter goodWord
theorem mTb_in {w : Cond} (h : w ∈ mTb) : w ∈ lw_tbl := (List.mem_filter.mp h).1
theorem mTb_good : ∀ w ∈ mTb, (w.onTables && w.keeps) = true ∨ ∃ ty, w = .arrayClass ty := fun w h => good_of_word (List.mem_filter.mp h).2
/-- calls of private members of nest mates -/
def mNs : List (String × Nat × MethodName × String) := [(RX11, 9, yX4_init, "StoneCensus"), (RX11, 18, yX8_init, "StoneCensus"), (RX8, 30, yX0_init, "StoneCensus"), (RX11, 35, yX2_init, "StoneCensus"), (RX11, 42, yX1_init, "StoneCensus"), (RX11, 49, yX6_init, "StoneCensus"), (RX11, 56, yX7_init, "StoneCensus"), (RX11, 63, yX5_init, "StoneCensus"), (RX11, 70, yX10_init, "StoneCensus"), (RX10, 25, yX9_init, "StoneCensus"), (RX11, 77, yX3_init, "StoneCensus"), (RX3, 18, yX9_init, "StoneCensus"), (RX8, 80, yX11_limited, "StoneCensus")]
/-! THE SMALL MACHINE. A heap is six things: what ints, longs and references the cells hold (by cell and place), what each cell is (a class's number, or an array's element type and length), how many cells and how many slots there are. A reference is a cell's number; NUL is null; from 900000 on the numbers are cells of the start (the script, the String constants). -/
abbrev mSh : Type := Nat ⊕ (FieldType × Nat)
abbrev mHp : Type := (Nat → Nat → Int32) × (Nat → Nat → Int64) × (Nat → Nat → Nat) × (Nat → mSh) × Nat × Nat
/-- a configuration: is all well so far, pc, locals, stack, heap -/
abbrev mC : Type := Bool × Nat × List Value × List Value × mHp
/-- a row of code: pc, instruction, length, two numbers that say what its index means -/
abbrev mI : Type := Nat × Instr × Nat × Nat × Nat
def hI (h : mHp) : Nat → Nat → Int32 := h.1
def hJ (h : mHp) : Nat → Nat → Int64 := h.2.1
def hR (h : mHp) : Nat → Nat → Nat := h.2.2.1
def hS (h : mHp) : Nat → mSh := h.2.2.2.1
def hN (h : mHp) : Nat := h.2.2.2.2.1
def hW (h : mHp) : Nat := h.2.2.2.2.2
def up2 {α : Type} (f : Nat → Nat → α) (i k : Nat) (v : α) : Nat → Nat → α := va_up f i (va_up (f i) k v)
def putI (h : mHp) (i k : Nat) (v : Int32) : mHp := (up2 h.1 i k v, h.2)
def putJ (h : mHp) (i k : Nat) (v : Int64) : mHp := (h.1, up2 h.2.1 i k v, h.2.2)
def putR (h : mHp) (i k v : Nat) : mHp := (h.1, h.2.1, up2 h.2.2.1 i k v, h.2.2.2)
def NUL : Nat := 999999
def mB : Nat := 900000
def newA (h : mHp) (ty : FieldType) (n : Nat) : mHp := (va_up h.1 (hN h) (fun _ => 0), va_up h.2.1 (hN h) (fun _ => 0), va_up h.2.2.1 (hN h) (fun _ => NUL), va_up h.2.2.2.1 (hN h) (.inr (ty, n)), hN h + 1, hW h + n)
def newO (h : mHp) (c n : Nat) : mHp := (va_up h.1 (hN h) (fun _ => 0), va_up h.2.1 (hN h) (fun _ => 0), va_up h.2.2.1 (hN h) (fun _ => NUL), va_up h.2.2.2.1 (hN h) (.inl c), hN h + 1, hW h + n)
/-- new int[n][k] -/
def newM (h : mHp) (n k : Nat) : mHp :=
  (fun a => if hN h ≤ a then (fun _ => 0) else h.1 a, fun a => if hN h ≤ a then (fun _ => 0) else h.2.1 a,
   fun a => if hN h ≤ a then (if a = hN h then (fun j => if j < n then hN h + 1 + j else NUL) else fun _ => NUL) else h.2.2.1 a,
   fun a => if hN h ≤ a then (if a = hN h then .inr (.array .int, n) else .inr (.int, k)) else h.2.2.2.1 a, hN h + 1 + n, hW h + n + n * k)
def mIx (i : Int32) : Nat := i.toNatClampNeg
def mIn (i : Int32) (n : Nat) : Bool := !(decide (i < 0)) && decide (i.toNatClampNeg < n)
/-- r is an object of class c -/
def kAO (n : Nat) (sh : mSh) (r c : Nat) : Bool := Nat.blt r n && (match sh with
  | .inl x => Nat.beq x c
  | .inr _ => false)
/-- r is an array of ints (of bytes or booleans; of longs; of rows of ints), and i is a place of it -/
def kAI (n : Nat) (sh : mSh) (r : Nat) (i : Int32) : Bool := Nat.blt r n && (match sh with
  | .inr (.int, n) => mIn i n
  | _ => false)
def kAB (n : Nat) (sh : mSh) (r : Nat) (i : Int32) : Bool := Nat.blt r n && (match sh with
  | .inr (.byte, n) => mIn i n
  | .inr (.boolean, n) => mIn i n
  | _ => false)
def kAJ (n : Nat) (sh : mSh) (r : Nat) (i : Int32) : Bool := Nat.blt r n && (match sh with
  | .inr (.long, n) => mIn i n
  | _ => false)
def kAR (n : Nat) (sh : mSh) (r : Nat) (i : Int32) : Bool := Nat.blt r n && (match sh with
  | .inr (.array .int, n) => mIn i n
  | _ => false)
def kLen (sh : mSh) : Nat := match sh with
  | .inr (_, n) => n
  | .inl _ => 0
def kAL (n : Nat) (sh : mSh) (r : Nat) : Bool := Nat.blt r n && (match sh with
  | .inr (.int, _) => true
  | _ => false)
def chO (h : mHp) (r c : Nat) : Bool := kAO (hN h) (hS h r) r c
def chI (h : mHp) (r : Nat) (i : Int32) : Bool := kAI (hN h) (hS h r) r i
def chB (h : mHp) (r : Nat) (i : Int32) : Bool := kAB (hN h) (hS h r) r i
def chJ (h : mHp) (r : Nat) (i : Int32) : Bool := kAJ (hN h) (hS h r) r i
def chR (h : mHp) (r : Nat) (i : Int32) : Bool := kAR (hN h) (hS h r) r i
def mLen (h : mHp) (r : Nat) : Nat := kLen (hS h r)
def chL (h : mHp) (r : Nat) : Bool := kAL (hN h) (hS h r) r
/-- what a store into a byte or a boolean array makes of a number -/
def kNar (sh : mSh) (x : Int32) : Int32 := match sh with
  | .inr (.byte, _) => vp_nar .byte x
  | _ => vp_nar .boolean x
def mNar (h : mHp) (r : Nat) (x : Int32) : Int32 := kNar (hS h r) x
/-- a number fits a field -/
def mFit (ty : FieldType) (x : Int32) : Bool := match ty with
  | .int => true
  | .boolean => decide (x = 0 ∨ x = 1)
  | .char => decide (narrow .char (.int x) = .int x) && fits .char (.int x)
  | _ => false
def mTy (c k : Nat) : FieldType := match c with
  | 0 => tyX0 k
  | 1 => tyX1 k
  | 2 => tyX2 k
  | 3 => tyX3 k
  | 4 => tyX4 k
  | 5 => tyX5 k
  | 6 => tyX6 k
  | 7 => tyX7 k
  | 8 => tyX8 k
  | 9 => tyX9 k
  | 10 => tyX10 k
  | 11 => tyX11 k
  | _ => tyX12 k
def mNf (c : Nat) : Nat := cond (Nat.blt c 6) (cond (Nat.blt c 3) (cond (Nat.beq c 0) 5 (cond (Nat.beq c 1) 4 6)) (cond (Nat.beq c 3) 9 (cond (Nat.beq c 4) 10 6))) (cond (Nat.blt c 9) (cond (Nat.beq c 6) 9 (cond (Nat.beq c 7) 5 12)) (cond (Nat.blt c 11) (cond (Nat.beq c 9) 3 15) (cond (Nat.beq c 11) 15 73)))
/-! what the cells are in the machine -/
/-- the first address, the addresses of the start's cells, of the strings' bytes, the classes, the arrays' classes -/
abbrev mG : Type := Nat × (Nat → Nat) × (Nat → Nat) × va_G × (FieldType → ClassId)
def mAd (G : mG) (i : Nat) : Nat := if i < 900000 then G.1 + i else G.2.1 (i - 900000)
def mRo (G : mG) (i : Nat) : Option Nat := if i = NUL then none else some (mAd G i)
def mCv (G : mG) (v : Value) : Value := match v with
  | .ref i => va_rf (mRo G i)
  | w => w
def mFv (G : mG) (h : mHp) (i k : Nat) (ty : FieldType) : Value := match ty with
  | .long => .long (hJ h i k)
  | .object _ => va_rf (mRo G (hR h i k))
  | .array _ => va_rf (mRo G (hR h i k))
  | _ => .int (hI h i k)
def mAr (G : mG) (h : mHp) (i n : Nat) (ty : FieldType) : vp_A := match ty with
  | .long => (n, .inr (.inl (hJ h i)))
  | .object _ => (n, .inr (.inr (.inr (.inr (fun k => mRo G (hR h i k))))))
  | .array _ => (n, .inr (.inr (.inr (.inr (fun k => mRo G (hR h i k))))))
  | _ => (n, .inl (hI h i))
def mEl (G : mG) (h : mHp) (i : Nat) : va_E := match hS h i with
  | .inl c => .inr (c, (List.range (mNf c)).map (fun k => mFv G h i k (mTy c k)))
  | .inr (ty, n) => .inl (G.2.2.2.2 ty, mAr G h i n ty)
def mWs (G : mG) (h : mHp) : va_W := (List.range (hN h)).map (fun i => (G.1 + i, mEl G h i))
def mA (G : mG) : Nat → Prop := fun q => G.1 ≤ q
def mWd (G : mG) (h : mHp) (H : Heap) : Prop := va_P G.2.2.2.1 vwCl (mWs G h) H ∧ hN h ≤ 900000
abbrev mTys (G : mG) : List (ClassId × FieldType) := [(G.2.2.2.2 .int, .int), (G.2.2.2.2 .byte, .byte), (G.2.2.2.2 .boolean, .boolean), (G.2.2.2.2 .long, .long), (G.2.2.2.2 (.array .int), .array .int)]
theorem mWs_get {G : mG} {h : mHp} {i : Nat} (hi : i < hN h) : (mWs G h)[i]? = some (G.1 + i, mEl G h i) := by
  unfold mWs
  rw [List.getElem?_map, List.getElem?_range hi]
  rfl
theorem mWs_len {G : mG} {h : mHp} : (mWs G h).length = hN h := by simp [mWs]
theorem mWs_D {G : mG} {h : mHp} : va_D (mA G) (mWs G h) := by
  have key : ∀ (k : Nat) (q : Nat × va_E), (mWs G h)[k]? = some q → q.1 = G.1 + k := by
    intro k q hk
    by_cases hl : k < hN h
    · rw [mWs_get hl] at hk
      cases hk
      rfl
    · rw [List.getElem?_eq_none (by rw [mWs_len]; omega)] at hk
      cases hk
  refine ⟨fun i j p q hi hj e => ?_, fun k q hk => ?_⟩
  · have h1 := key i p hi
    have h2 := key j q hj
    omega
  · have h1 := key k q hk
    show G.1 ≤ q.1
    omega
theorem mWs_set {G : mG} {h h' : mHp} {r : Nat} {e : va_E} (hn : hN h' = hN h) (hr : r < hN h) (he : mEl G h' r = e) (ho : ∀ j, j < hN h → j ≠ r → mEl G h' j = mEl G h j) : (mWs G h).set r (G.1 + r, e) = mWs G h' := by
  apply List.ext_getElem?
  intro k
  by_cases hk : k < hN h
  · rw [mWs_get (h := h') (by omega)]
    by_cases e1 : k = r
    · subst e1
      rw [List.getElem?_set_self (by rw [mWs_len]; exact hk), he]
    · rw [List.getElem?_set_ne (fun z => e1 z.symm), mWs_get hk, ho k hk e1]
  · rw [List.getElem?_eq_none (by rw [List.length_set, mWs_len]; omega), List.getElem?_eq_none (by rw [mWs_len]; omega)]
theorem mWs_push {G : mG} {h h' : mHp} {e : va_E} (hn : hN h' = hN h + 1) (he : mEl G h' (hN h) = e) (ho : ∀ j, j < hN h → mEl G h' j = mEl G h j) : mWs G h ++ [(G.1 + hN h, e)] = mWs G h' := by
  apply List.ext_getElem?
  intro k
  by_cases hk : k < hN h
  · rw [mWs_get (h := h') (by omega), List.getElem?_append_left (by rw [mWs_len]; exact hk), mWs_get hk, ho k hk]
  · rw [List.getElem?_append_right (by rw [mWs_len]; omega), mWs_len]
    by_cases e1 : k = hN h
    · subst e1
      rw [mWs_get (by omega), he, Nat.sub_self]
      rfl
    · rw [List.getElem?_eq_none (by simp; omega), List.getElem?_eq_none (by rw [mWs_len]; omega)]
/-! an element behind a store elsewhere -/
theorem mEl_eq {G : mG} {h h' : mHp} {j : Nat} (hs : hS h' j = hS h j) (hi : hI h' j = hI h j) (hj : hJ h' j = hJ h j) (hr : hR h' j = hR h j) : mEl G h' j = mEl G h j := by
  unfold mEl
  rw [hs]
  cases hS h j with
  | inl c =>
    show Sum.inr (c, _) = Sum.inr (c, _)
    congr 2
    apply List.map_congr_left
    intro k _
    unfold mFv
    rw [hi, hj, hr]
  | inr q =>
    obtain ⟨ty, n⟩ := q
    show Sum.inl (_, mAr G h' j n ty) = Sum.inl (_, mAr G h j n ty)
    unfold mAr
    rw [hi, hj, hr]
theorem up2_ne {α : Type} {f : Nat → Nat → α} {i k j : Nat} {v : α} (hj : j ≠ i) : up2 f i k v j = f j := by
  unfold up2 va_up
  rw [if_neg hj]
theorem up2_at {α : Type} {f : Nat → Nat → α} {i k : Nat} {v : α} : up2 f i k v i = va_up (f i) k v := by
  unfold up2 va_up
  rw [if_pos rfl]
theorem mEl_putI {G : mG} {h : mHp} {r k j : Nat} {v : Int32} (hj : j ≠ r) : mEl G (putI h r k v) j = mEl G h j := mEl_eq rfl (up2_ne hj) rfl rfl
theorem mEl_putJ {G : mG} {h : mHp} {r k j : Nat} {v : Int64} (hj : j ≠ r) : mEl G (putJ h r k v) j = mEl G h j := mEl_eq rfl rfl (up2_ne hj) rfl
theorem mEl_putR {G : mG} {h : mHp} {r k v j : Nat} (hj : j ≠ r) : mEl G (putR h r k v) j = mEl G h j := mEl_eq rfl rfl rfl (up2_ne hj)
end
section
/-! ONE STEP of the small machine (no calls, no returns), and that the machine does it. -/
def mSt : List (Nat × String) := [(40, "house"), (86, "at"), (91, "heads"), (93, "jam"), (95, "habit"), (49, "spit"), (58, "tax"), (62, "grow"), (66, "draw"), (119, "or"), (127, "and"), (129, "not"), (158, "hidden"), (160, "stones"), (162, "year")]
def mStB : List (List Int32) := [[104, 111, 117, 115, 101], [97, 116], [104, 101, 97, 100, 115], [106, 97, 109], [104, 97, 98, 105, 116], [115, 112, 105, 116], [116, 97, 120], [103, 114, 111, 119], [100, 114, 97, 119], [111, 114], [97, 110, 100], [110, 111, 116], [104, 105, 100, 100, 101, 110], [115, 116, 111, 110, 101, 115], [121, 101, 97, 114]]
def mStL : List Nat := [5, 2, 5, 3, 5, 4, 3, 4, 4, 2, 3, 3, 6, 6, 4]
def mBad (h : mHp) : mC := (false, 0, [], [], h)
def mTg (pc : Nat) (off : Int) : Nat := ((pc : Int) + off).toNat
def mTk (pc : Nat) (off : Int) : Bool := decide (0 ≤ (pc : Int) + off)
def mU1 (st : List Value) (bad : mC) (f : Int32 → List Value → mC) : mC := match st with
  | .int x :: r => f x r
  | _ => bad
def mU2 (st : List Value) (bad : mC) (f : Int32 → Int32 → List Value → mC) : mC := match st with
  | .int y :: .int x :: r => f x y r
  | _ => bad
def mUl (st : List Value) (bad : mC) (f : Int64 → List Value → mC) : mC := match st with
  | .long x :: r => f x r
  | _ => bad
def mUll (st : List Value) (bad : mC) (f : Int64 → Int64 → List Value → mC) : mC := match st with
  | .long y :: .long x :: r => f x y r
  | _ => bad
def mUr (st : List Value) (bad : mC) (f : Nat → List Value → mC) : mC := match st with
  | .ref x :: r => f x r
  | _ => bad
def mUir (st : List Value) (bad : mC) (f : Int32 → Nat → List Value → mC) : mC := match st with
  | .int i :: .ref a :: r => f i a r
  | _ => bad
def mUxir (st : List Value) (bad : mC) (f : Value → Int32 → Nat → List Value → mC) : mC := match st with
  | x :: .int i :: .ref a :: r => f x i a r
  | _ => bad
def mUvr (st : List Value) (bad : mC) (f : Value → Nat → List Value → mC) : mC := match st with
  | v :: .ref a :: r => f v a r
  | _ => bad
def mUv (st : List Value) (bad : mC) (f : Value → List Value → mC) : mC := match st with
  | v :: r => f v r
  | _ => bad
def mUvv (st : List Value) (bad : mC) (f : Value → Value → List Value → mC) : mC := match st with
  | v :: w :: r => f v w r
  | _ => bad
def mUc (st : List Value) (bad : mC) (f : Int32 → Int32 → Nat → Int32 → Nat → List Value → mC) : mC := match st with
  | .int n :: .int dp :: .ref d :: .int sp :: .ref a :: r => f n dp d sp a r
  | _ => bad
/-- copying of ints between arrays -/
def cpyI (h : mHp) (a d : Nat) (sp dp n : Int32) : mHp := (va_up h.1 d (va_cpy (h.1 a) (h.1 d) (mIx sp) (mIx dp) (mIx n)), h.2)
def cpOk (la ld : Nat) (sp dp n : Int32) : Bool := (!(decide (sp < 0)) && !(decide (dp < 0)) && !(decide (n < 0))) && (decide (mIx sp + mIx n ≤ la) && decide (mIx dp + mIx n ≤ ld))
def chC (h : mHp) (a d : Nat) (sp dp n : Int32) : Bool := (chL h a && chL h d) && cpOk (mLen h a) (mLen h d) sp dp n
/-- a store breaks a long that lies over its place -/
def mFix (L : List Value) (i : Nat) : List Value := match i with
  | 0 => L
  | j + 1 => (match L.getD j (.retAddr 0) with
    | .long _ => L.set j (.retAddr 0)
    | .double _ => L.set j (.retAddr 0)
    | _ => L)
def mGet (a : Nat) (h : mHp) (r k : Nat) (ty : FieldType) : Value := match ty with
  | .long => .long (hJ h r k)
  | .object _ => .ref (hR h r k)
  | .array _ => .ref (hR h r k)
  | _ => .int (hI h r k)
/-- is that field final -/
def mFin (a b : Nat) : Bool := match vwCl[a]? with
  | some q => (q.2.1 b).2.2.2
  | none => true
def mCond (cnd : ClassFile.Cond) (x y : Int32) (t f : Nat) : Nat := match cnd with
  | .eq => if x = y then t else f
  | .ne => if x = y then f else t
  | .lt => if x < y then t else f
  | .ge => if y ≤ x then t else f
  | .gt => if y < x then t else f
  | .le => if x ≤ y then t else f
def mLkp (pc : Nat) : List (Int × Int) → Int → Int32 → Nat
  | [], d, _ => mTg pc d
  | (v, o) :: os, d, x => if v = x.toInt then mTg pc o else mLkp pc os d x
def mTab (pc : Nat) : List Int → Int → Int → Int32 → Nat
  | [], _, d, _ => mTg pc d
  | o :: os, lo, d, x => if x = Int32.ofInt lo then mTg pc o else mTab pc os (lo + 1) d x
def mLd (ok : Bool) (pc : Nat) (L st : List Value) (h : mHp) (i : Nat) (cat : Nat) : mC := match cat, L.getD i (.retAddr 0) with
  | 0, .int x => (ok, pc, L, .int x :: st, h)
  | 1, .ref x => (ok, pc, L, .ref x :: st, h)
  | 2, .long x => (ok, pc, L, .long x :: st, h)
  | _, _ => mBad h
def mSto (ok : Bool) (pc nL : Nat) (L st : List Value) (h : mHp) (i : Nat) (cat : Nat) : mC := match cat, st with
  | 0, .int x :: r => (ok, pc, (mFix L i).set i (.int x), r, h)
  | 1, .ref x :: r => (ok, pc, (mFix L i).set i (.ref x), r, h)
  | 2, .long x :: r => (ok, pc, ((mFix L i).set i (.long x)).set (i + 1) (.retAddr 0), r, h)
  | _, _ => mBad h
/-- a value into a field of such a type -/
def mPutB (ty : FieldType) (v : Value) (ok : Bool) (pc : Nat) (L t : List Value) (h : mHp) (r a b : Nat) : mC := match ty, v with
    | .int, .int x => (chO h r a && ok, pc + 3, L, t, putI h r b x)
    | .boolean, .int x => (mFit .boolean x && (chO h r a && ok), pc + 3, L, t, putI h r b x)
    | .char, .int x => (mFit .char x && (chO h r a && ok), pc + 3, L, t, putI h r b x)
    | .long, .long x => (chO h r a && ok, pc + 3, L, t, putJ h r b x)
    | .object _, .ref x => (chO h r a && ok, pc + 3, L, t, putR h r b x)
    | .array _, .ref x => (chO h r a && ok, pc + 3, L, t, putR h r b x)
    | _, _ => mBad h
/-- one row of code; nL: how many locals, fin: may final fields be written, nM, wM: how many cells and slots there may be; pc, the row's two numbers; all well so far, locals, stack, heap -/
abbrev mFn : Type := Nat → Bool → Nat → Nat → Nat → Nat → Nat → Bool → List Value → List Value → mHp → mC
def c_bad : mFn := fun _ _ _ _ _ _ _ _ _ _ h => mBad h
def c_iconst (n : Int) : mFn := fun nL fin nM wM pc a b ok L st h => (ok, pc + 1, L, .int (Int32.ofInt n) :: st, h)
def c_bipush (n : Int) : mFn := fun nL fin nM wM pc a b ok L st h => (ok, pc + 2, L, .int (Int8.ofInt n).toInt32 :: st, h)
def c_sipush (n : Int) : mFn := fun nL fin nM wM pc a b ok L st h => (ok, pc + 3, L, .int (Int16.ofInt n).toInt32 :: st, h)
def c_lconst (n : Fin 2) : mFn := fun nL fin nM wM pc a b ok L st h => (ok, pc + 1, L, .long (Int64.ofNat (n : Nat)) :: st, h)
def c_ldc  : mFn := fun nL fin nM wM pc a b ok L st h => if b = 0 then (ok, pc + 2, L, .int (Int32.ofNat a) :: st, h) else (ok, pc + 2, L, .ref (900000 + a) :: st, h)
def c_ldc_w  : mFn := fun nL fin nM wM pc a b ok L st h => (ok, pc + 3, L, .int (Int32.ofNat a) :: st, h)
def c_ldc2_w  : mFn := fun nL fin nM wM pc a b ok L st h => (ok, pc + 3, L, .long (Int64.ofNat a) :: st, h)
def c_iload (i : Nat) : mFn := fun nL fin nM wM pc a b ok L st h => mLd ok (pc + 2) L st h i 0
def c_iload_n (i : Fin 4) : mFn := fun nL fin nM wM pc a b ok L st h => mLd ok (pc + 1) L st h i 0
def c_aload (i : Nat) : mFn := fun nL fin nM wM pc a b ok L st h => mLd ok (pc + 2) L st h i 1
def c_aload_n (i : Fin 4) : mFn := fun nL fin nM wM pc a b ok L st h => mLd ok (pc + 1) L st h i 1
def c_lload (i : Nat) : mFn := fun nL fin nM wM pc a b ok L st h => mLd ok (pc + 2) L st h i 2
def c_lload_n (i : Fin 4) : mFn := fun nL fin nM wM pc a b ok L st h => mLd ok (pc + 1) L st h i 2
def c_istore (i : Nat) : mFn := fun nL fin nM wM pc a b ok L st h => mSto ok (pc + 2) nL L st h i 0
def c_istore_n (i : Fin 4) : mFn := fun nL fin nM wM pc a b ok L st h => mSto ok (pc + 1) nL L st h i 0
def c_astore (i : Nat) : mFn := fun nL fin nM wM pc a b ok L st h => mSto ok (pc + 2) nL L st h i 1
def c_astore_n (i : Fin 4) : mFn := fun nL fin nM wM pc a b ok L st h => mSto ok (pc + 1) nL L st h i 1
def c_lstore (i : Nat) : mFn := fun nL fin nM wM pc a b ok L st h => mSto ok (pc + 2) nL L st h i 2
def c_lstore_n (i : Fin 4) : mFn := fun nL fin nM wM pc a b ok L st h => mSto ok (pc + 1) nL L st h i 2
def c_iinc (i : Nat) (n : Int) : mFn := fun nL fin nM wM pc a b ok L st h => (match L.getD i (.retAddr 0) with
      | .int x => (ok, pc + 3, (mFix L i).set i (.int (x + Int32.ofInt n)), st, h)
      | _ => mBad h)
def c_dup  : mFn := fun nL fin nM wM pc a b ok L st h => (match st with
    | .int x :: r => (ok, pc + 1, L, .int x :: .int x :: r, h)
    | .ref x :: r => (ok, pc + 1, L, .ref x :: .ref x :: r, h)
    | _ => mBad h)
def c_pop  : mFn := fun nL fin nM wM pc a b ok L st h => (match st with
    | .int _ :: r => (ok, pc + 1, L, r, h)
    | .ref _ :: r => (ok, pc + 1, L, r, h)
    | _ => mBad h)
def c_dup2  : mFn := fun nL fin nM wM pc a b ok L st h => (match st with
    | .int x :: .ref y :: r => (ok, pc + 1, L, .int x :: .ref y :: .int x :: .ref y :: r, h)
    | _ => mBad h)
def c_iadd  : mFn := fun nL fin nM wM pc a b ok L st h => mU2 st (mBad h) (fun x y r => (ok, pc + 1, L, .int (x + y) :: r, h))
def c_isub  : mFn := fun nL fin nM wM pc a b ok L st h => mU2 st (mBad h) (fun x y r => (ok, pc + 1, L, .int (x - y) :: r, h))
def c_imul  : mFn := fun nL fin nM wM pc a b ok L st h => mU2 st (mBad h) (fun x y r => (ok, pc + 1, L, .int (x * y) :: r, h))
def c_idiv  : mFn := fun nL fin nM wM pc a b ok L st h => mU2 st (mBad h) (fun x y r => (decide (¬ y = 0) && ok, pc + 1, L, .int (x / y) :: r, h))
def c_irem  : mFn := fun nL fin nM wM pc a b ok L st h => mU2 st (mBad h) (fun x y r => (decide (¬ y = 0) && ok, pc + 1, L, .int (x - x / y * y) :: r, h))
def c_iand  : mFn := fun nL fin nM wM pc a b ok L st h => mU2 st (mBad h) (fun x y r => (ok, pc + 1, L, .int (x &&& y) :: r, h))
def c_ior  : mFn := fun nL fin nM wM pc a b ok L st h => mU2 st (mBad h) (fun x y r => (ok, pc + 1, L, .int (x ||| y) :: r, h))
def c_ixor  : mFn := fun nL fin nM wM pc a b ok L st h => mU2 st (mBad h) (fun x y r => (ok, pc + 1, L, .int (x ^^^ y) :: r, h))
def c_ishl  : mFn := fun nL fin nM wM pc a b ok L st h => mU2 st (mBad h) (fun x y r => (ok, pc + 1, L, .int (x <<< (y &&& 31)) :: r, h))
def c_ishr  : mFn := fun nL fin nM wM pc a b ok L st h => mU2 st (mBad h) (fun x y r => (ok, pc + 1, L, .int (x >>> (y &&& 31)) :: r, h))
def c_iushr  : mFn := fun nL fin nM wM pc a b ok L st h => mU2 st (mBad h) (fun x y r => (ok, pc + 1, L, .int (x.toUInt32 >>> (y.toUInt32 &&& Int32.toUInt32 31)).toInt32 :: r, h))
def c_ladd  : mFn := fun nL fin nM wM pc a b ok L st h => mUll st (mBad h) (fun x y r => (ok, pc + 1, L, .long (x + y) :: r, h))
def c_lmul  : mFn := fun nL fin nM wM pc a b ok L st h => mUll st (mBad h) (fun x y r => (ok, pc + 1, L, .long (x * y) :: r, h))
def c_lor  : mFn := fun nL fin nM wM pc a b ok L st h => mUll st (mBad h) (fun x y r => (ok, pc + 1, L, .long (x ||| y) :: r, h))
def c_lcmp  : mFn := fun nL fin nM wM pc a b ok L st h => mUll st (mBad h) (fun x y r => (ok, pc + 1, L, .int (lg_cmp x y) :: r, h))
def c_lshl  : mFn := fun nL fin nM wM pc a b ok L st h => mU1 st (mBad h) (fun y r => mUl r (mBad h) (fun x r => (ok, pc + 1, L, .long (x <<< (y.toInt64 &&& 63)) :: r, h)))
def c_i2l  : mFn := fun nL fin nM wM pc a b ok L st h => mU1 st (mBad h) (fun x r => (ok, pc + 1, L, .long x.toInt64 :: r, h))
def c_i2b  : mFn := fun nL fin nM wM pc a b ok L st h => mU1 st (mBad h) (fun x r => (ok, pc + 1, L, .int x.toInt8.toInt32 :: r, h))
def c_i2c  : mFn := fun nL fin nM wM pc a b ok L st h => mU1 st (mBad h) (fun x r => (ok, pc + 1, L, .int (x.toUInt32 % 65536).toInt32 :: r, h))
def c_goto (off : Int) : mFn := fun nL fin nM wM pc a b ok L st h => (ok, mTg pc off, L, st, h)
def c_if_icmp (cnd : ClassFile.Cond) (off : Int) : mFn := fun nL fin nM wM pc a b ok L st h => mU2 st (mBad h) (fun x y r => (ok, mCond cnd x y (mTg pc off) (pc + 3), L, r, h))
def c_ifCond (cnd : ClassFile.Cond) (off : Int) : mFn := fun nL fin nM wM pc a b ok L st h => mU1 st (mBad h) (fun x r => (ok, mCond cnd x 0 (mTg pc off) (pc + 3), L, r, h))
def c_tableswitch (d lo hi : Int) (os : Array Int) : mFn := fun nL fin nM wM pc a b ok L st h => mU1 st (mBad h) (fun x r => (ok, mTab pc os.toList lo d x, L, r, h))
def c_lookupswitch (d : Int) (ps : Array (Int × Int)) : mFn := fun nL fin nM wM pc a b ok L st h => mU1 st (mBad h) (fun x r => (ok, mLkp pc ps.toList d x, L, r, h))
def c_getfield  : mFn := fun nL fin nM wM pc a b ok L st h => mUr st (mBad h) (fun r t => (chO h r a && ok, pc + 3, L, mGet a h r b (mTy a b) :: t, h))
def c_putfield  : mFn := fun nL fin nM wM pc a b ok L st h => mUvr st (mBad h) (fun v r t => mPutB (mTy a b) v ok pc L t h r a b)
def c_iaload  : mFn := fun nL fin nM wM pc a b ok L st h => mUir st (mBad h) (fun i r t => (chI h r i && ok, pc + 1, L, .int (hI h r (mIx i)) :: t, h))
def c_baload  : mFn := fun nL fin nM wM pc a b ok L st h => mUir st (mBad h) (fun i r t => (chB h r i && ok, pc + 1, L, .int (hI h r (mIx i)) :: t, h))
def c_laload  : mFn := fun nL fin nM wM pc a b ok L st h => mUir st (mBad h) (fun i r t => (chJ h r i && ok, pc + 1, L, .long (hJ h r (mIx i)) :: t, h))
def c_aaload  : mFn := fun nL fin nM wM pc a b ok L st h => mUir st (mBad h) (fun i r t => (chR h r i && ok, pc + 1, L, .ref (hR h r (mIx i)) :: t, h))
def c_iastore  : mFn := fun nL fin nM wM pc a b ok L st h => mUxir st (mBad h) (fun v i r t => (match v with
      | .int x => (chI h r i && ok, pc + 1, L, t, putI h r (mIx i) x)
      | _ => mBad h))
def c_bastore  : mFn := fun nL fin nM wM pc a b ok L st h => mUxir st (mBad h) (fun v i r t => (match v with
      | .int x => (chB h r i && ok, pc + 1, L, t, putI h r (mIx i) (mNar h r x))
      | _ => mBad h))
def c_lastore  : mFn := fun nL fin nM wM pc a b ok L st h => mUxir st (mBad h) (fun v i r t => (match v with
      | .long x => (chJ h r i && ok, pc + 1, L, t, putJ h r (mIx i) x)
      | _ => mBad h))
def c_arraylength  : mFn := fun nL fin nM wM pc a b ok L st h => mUr st (mBad h) (fun r t => (chL h r && ok, pc + 1, L, .int (Int32.ofNat (mLen h r)) :: t, h))
def c_invokestatic  : mFn := fun nL fin nM wM pc a b ok L st h => cond (Nat.beq b 7777) (match st with
    | [.int n, .int dp, .ref d, .int sp, .ref a] => (chC h a d sp dp n && ok, pc + 3, L, [], cpyI h a d sp dp n)
    | _ => mBad h) (mBad h)
def c_invokespecial  : mFn := fun nL fin nM wM pc a b ok L st h => cond (Nat.beq b 8888) (match st with
    | [.ref r] => (Nat.blt r (hN h) && ok, pc + 3, L, [], h)
    | _ => mBad h) (mBad h)
def c_newarray (ty : ArrayType) : mFn := fun nL fin nM wM pc a b ok L st h => mU1 st (mBad h) (fun n r => (!(decide (n < 0)) && (decide (mIx n ≤ 60000000) && (decide (hN h + 1 ≤ nM) && (decide (hW h + mIx n ≤ wM) && ok))), pc + 2, L, .ref (hN h) :: r, newA h (newarray.typeOf ty) (mIx n)))
def c_new  : mFn := fun nL fin nM wM pc a b ok L st h => (decide (hN h + 1 ≤ nM) && (decide (hW h + mNf a ≤ wM) && ok), pc + 3, L, .ref (hN h) :: st, newO h a (mNf a))
def c_multianewarray (d : Nat) : mFn := fun nL fin nM wM pc a b ok L st h => mU2 st (mBad h) (fun n k r => (decide (d = 2) && (!(decide (n < 0)) && (!(decide (k < 0)) && (decide (mIx n ≤ 60000000) && (decide (mIx k ≤ 60000000) && (decide (hN h + 1 + mIx n ≤ nM) && (decide (hW h + mIx n + mIx n * mIx k ≤ wM) && ok)))))), pc + 4, L, .ref (hN h) :: r, newM h (mIx n) (mIx k)))
def mDis (ins : Instr) : mFn := match ins with
  | .iconst n => c_iconst n
  | .bipush n => c_bipush n
  | .sipush n => c_sipush n
  | .lconst n => c_lconst n
  | .ldc _ => c_ldc
  | .ldc_w _ => c_ldc_w
  | .ldc2_w _ => c_ldc2_w
  | .iload i => c_iload i
  | .iload_n i => c_iload_n i
  | .aload i => c_aload i
  | .aload_n i => c_aload_n i
  | .lload i => c_lload i
  | .lload_n i => c_lload_n i
  | .istore i => c_istore i
  | .istore_n i => c_istore_n i
  | .astore i => c_astore i
  | .astore_n i => c_astore_n i
  | .lstore i => c_lstore i
  | .lstore_n i => c_lstore_n i
  | .iinc i n => c_iinc i n
  | .dup => c_dup
  | .pop => c_pop
  | .dup2 => c_dup2
  | .iadd => c_iadd
  | .isub => c_isub
  | .imul => c_imul
  | .idiv => c_idiv
  | .irem => c_irem
  | .iand => c_iand
  | .ior => c_ior
  | .ixor => c_ixor
  | .ishl => c_ishl
  | .ishr => c_ishr
  | .iushr => c_iushr
  | .ladd => c_ladd
  | .lmul => c_lmul
  | .lor => c_lor
  | .lcmp => c_lcmp
  | .lshl => c_lshl
  | .i2l => c_i2l
  | .i2b => c_i2b
  | .i2c => c_i2c
  | .goto off => c_goto off
  | .if_icmp cnd off => c_if_icmp cnd off
  | .ifCond cnd off => c_ifCond cnd off
  | .tableswitch d lo hi os => c_tableswitch d lo hi os
  | .lookupswitch d ps => c_lookupswitch d ps
  | .getfield _ => c_getfield
  | .putfield _ => c_putfield
  | .iaload => c_iaload
  | .baload => c_baload
  | .laload => c_laload
  | .aaload => c_aaload
  | .iastore => c_iastore
  | .bastore => c_bastore
  | .lastore => c_lastore
  | .arraylength => c_arraylength
  | .invokestatic _ => c_invokestatic
  | .invokespecial _ => c_invokespecial
  | .newarray ty => c_newarray ty
  | .new _ => c_new
  | .multianewarray _ d => c_multianewarray d
  | _ => c_bad
def mst (nL : Nat) (fin : Bool) (nM wM : Nat) (q : mI) (c : mC) : mC := mDis q.2.1 nL fin nM wM q.1 q.2.2.2.1 q.2.2.2.2 c.1 c.2.2.1 c.2.2.2.1 c.2.2.2.2
/-- a stretch of rows, one behind another -/
def mgo (nL : Nat) (fin : Bool) (nM wM : Nat) : List mI → mC → mC
  | [], c => c
  | q :: qs, c => mgo nL fin nM wM qs (cond (Nat.beq c.2.1 q.1) (mst nL fin nM wM q c) (mBad c.2.2.2.2))
end
section
/-! THAT THE MACHINE DOES A STEP of the small machine. -/
def mIl (ins : Instr) : Option Nat := match ins with
  | .iconst _ => some 1
  | .bipush _ => some 2
  | .sipush _ => some 3
  | .lconst _ => some 1
  | .ldc _ => some 2
  | .ldc_w _ => some 3
  | .ldc2_w _ => some 3
  | .iload _ => some 2
  | .aload _ => some 2
  | .lload _ => some 2
  | .istore _ => some 2
  | .astore _ => some 2
  | .lstore _ => some 2
  | .iinc _ _ => some 3
  | .goto _ => some 3
  | .if_icmp _ _ => some 3
  | .ifCond _ _ => some 3
  | .getfield _ => some 3
  | .putfield _ => some 3
  | .invokestatic _ => some 3
  | .invokevirtual _ => some 3
  | .invokespecial _ => some 3
  | .newarray _ => some 2
  | .new _ => some 3
  | .multianewarray _ _ => some 4
  | .tableswitch _ _ _ _ => none
  | .lookupswitch _ _ => none
  | _ => some 1
def mLok (q : mI) : Bool := match mIl q.2.1 with
  | some n => q.2.2.1 == n
  | none => true
/-- what can be seen of a row ahead of its run -/
def mSta (nL : Nat) (fin : Bool) (q : mI) : Bool := match q with
  | (pc, ins, _, a, b) => match ins with
    | .istore i => decide (i < nL)
    | .istore_n i => decide ((i : Nat) < nL)
    | .astore i => decide (i < nL)
    | .astore_n i => decide ((i : Nat) < nL)
    | .lstore i => decide (i + 1 < nL)
    | .lstore_n i => decide ((i : Nat) + 1 < nL)
    | .iinc i _ => decide (i < nL)
    | .goto off => mTk pc off
    | .if_icmp _ off => mTk pc off
    | .ifCond _ off => mTk pc off
    | .tableswitch d lo hi os => (d :: os.toList).all (fun o => mTk pc o) && (decide (hi - lo + 1 = (os.toList.length : Int)) && decide (-2147483648 ≤ lo ∧ hi ≤ 2147483647))
    | .lookupswitch d ps => (d :: ps.toList.map (fun q => q.2)).all (fun o => mTk pc o) && (ps.toList.zip (ps.toList.drop 1)).all (fun (a, next) => a.1 < next.1)
    | .getfield _ => decide (b < mNf a)
    | .putfield _ => decide (b < mNf a) && (!(mFin a b) || fin)
    | _ => true
/-- what the words say of a row's index -/
def mEnt (own : String) (q : mI) : Prop := match q with
  | (_, ins, _, a, b) => match ins with
    | .ldc i => if b = 0 then Cond.constant own i (Int32.ofNat a) ∈ mTb else own = RX4 ∧ ∃ tx, mSt[a]? = some (i, tx)
    | .ldc_w i => Cond.constant own i (Int32.ofNat a) ∈ mTb
    | .ldc2_w i => Cond.constantLong own i (Int64.ofNat a) ∈ mTb
    | .getfield i => ∃ r : vw_C, vwCl[a]? = some r ∧ Cond.fieldLink own i (r.2.1 b).1 (r.2.1 b).2.1 (r.2.1 b).2.2.1 ∈ mTb
    | .putfield i => ∃ r : vw_C, vwCl[a]? = some r ∧ Cond.fieldLink own i (r.2.1 b).1 (r.2.1 b).2.1 (r.2.1 b).2.2.1 ∈ mTb ∧ (mFin a b = true → (r.2.1 b).1 = own)
    | .new i => ∃ r : vw_C, vwCl[a]? = some r ∧ Cond.classLink own i r.1 ∈ mTb ∧ Cond.instantiable r.1 r.2.2 ∈ mTb ∧ Cond.initialized r.1 ∈ mTb
    | .newarray ty => Cond.arrayClass (newarray.typeOf ty) ∈ mTb ∧ (newarray.typeOf ty = .int ∨ newarray.typeOf ty = .byte ∨ newarray.typeOf ty = .boolean ∨ newarray.typeOf ty = .long)
    | .multianewarray i _ => Cond.classLink own i "[[I" ∈ mTb
    | .invokespecial i => b = 8888 → Cond.methodLink own i objectInit ∈ mTb
    | .invokestatic i => b = 7777 → Cond.methodLink own i arraycopyName ∈ mTb
    | _ => True
theorem mCl_ty {a : Nat} {r : vw_C} (h : vwCl[a]? = some r) : ∀ k, k < r.2.2 → parseFieldDescriptor (r.2.1 k).2.2.1 = some (mTy a k) := by
  match a, h with
  | 0, h => cases h; exact tyX0_ok
  | 1, h => cases h; exact tyX1_ok
  | 2, h => cases h; exact tyX2_ok
  | 3, h => cases h; exact tyX3_ok
  | 4, h => cases h; exact tyX4_ok
  | 5, h => cases h; exact tyX5_ok
  | 6, h => cases h; exact tyX6_ok
  | 7, h => cases h; exact tyX7_ok
  | 8, h => cases h; exact tyX8_ok
  | 9, h => cases h; exact tyX9_ok
  | 10, h => cases h; exact tyX10_ok
  | 11, h => cases h; exact tyX11_ok
  | 12, h => cases h; exact tyX12_ok
  | n + 13, h => cases h
theorem mCl_nm {a : Nat} {r : vw_C} (h : vwCl[a]? = some r) : ∀ x, x < r.2.2 → ∀ y, y < r.2.2 → x ≠ y → (r.2.1 x).2.1 ≠ (r.2.1 y).2.1 := by
  match a, h with
  | 0, h => cases h; exact nmX0
  | 1, h => cases h; exact nmX1
  | 2, h => cases h; exact nmX2
  | 3, h => cases h; exact nmX3
  | 4, h => cases h; exact nmX4
  | 5, h => cases h; exact nmX5
  | 6, h => cases h; exact nmX6
  | 7, h => cases h; exact nmX7
  | 8, h => cases h; exact nmX8
  | 9, h => cases h; exact nmX9
  | 10, h => cases h; exact nmX10
  | 11, h => cases h; exact nmX11
  | 12, h => cases h; exact nmX12
  | n + 13, h => cases h
theorem mCl_nf {a : Nat} {r : vw_C} (h : vwCl[a]? = some r) : mNf a = r.2.2 := by
  match a, h with
  | 0, h => cases h; rfl
  | 1, h => cases h; rfl
  | 2, h => cases h; rfl
  | 3, h => cases h; rfl
  | 4, h => cases h; rfl
  | 5, h => cases h; rfl
  | 6, h => cases h; rfl
  | 7, h => cases h; rfl
  | 8, h => cases h; rfl
  | 9, h => cases h; rfl
  | 10, h => cases h; rfl
  | 11, h => cases h; rfl
  | 12, h => cases h; rfl
  | n + 13, h => cases h
theorem mCl_fin {a b : Nat} {r : vw_C} (h : vwCl[a]? = some r) : mFin a b = (r.2.1 b).2.2.2 := by
  unfold mFin
  rw [h]
theorem mU1_ok {st : List Value} {bad : mC} {f : Int32 → List Value → mC} (h : (mU1 st bad f).1 = true) (hb : bad.1 = false) : ∃ x r, st = .int x :: r := by
  unfold mU1 at h
  split at h
  · exact ⟨_, _, rfl⟩
  · rw [hb] at h; cases h
theorem mU2_ok {st : List Value} {bad : mC} {f : Int32 → Int32 → List Value → mC} (h : (mU2 st bad f).1 = true) (hb : bad.1 = false) : ∃ y x r, st = .int y :: .int x :: r := by
  unfold mU2 at h
  split at h
  · exact ⟨_, _, _, rfl⟩
  · rw [hb] at h; cases h
theorem mUl_ok {st : List Value} {bad : mC} {f : Int64 → List Value → mC} (h : (mUl st bad f).1 = true) (hb : bad.1 = false) : ∃ x r, st = .long x :: r := by
  unfold mUl at h
  split at h
  · exact ⟨_, _, rfl⟩
  · rw [hb] at h; cases h
theorem mUll_ok {st : List Value} {bad : mC} {f : Int64 → Int64 → List Value → mC} (h : (mUll st bad f).1 = true) (hb : bad.1 = false) : ∃ y x r, st = .long y :: .long x :: r := by
  unfold mUll at h
  split at h
  · exact ⟨_, _, _, rfl⟩
  · rw [hb] at h; cases h
theorem mUr_ok {st : List Value} {bad : mC} {f : Nat → List Value → mC} (h : (mUr st bad f).1 = true) (hb : bad.1 = false) : ∃ x r, st = .ref x :: r := by
  unfold mUr at h
  split at h
  · exact ⟨_, _, rfl⟩
  · rw [hb] at h; cases h
theorem mUir_ok {st : List Value} {bad : mC} {f : Int32 → Nat → List Value → mC} (h : (mUir st bad f).1 = true) (hb : bad.1 = false) : ∃ i a r, st = .int i :: .ref a :: r := by
  unfold mUir at h
  split at h
  · exact ⟨_, _, _, rfl⟩
  · rw [hb] at h; cases h
theorem mUxir_ok {st : List Value} {bad : mC} {f : Value → Int32 → Nat → List Value → mC} (h : (mUxir st bad f).1 = true) (hb : bad.1 = false) : ∃ x i a r, st = x :: .int i :: .ref a :: r := by
  unfold mUxir at h
  split at h
  · exact ⟨_, _, _, _, rfl⟩
  · rw [hb] at h; cases h
theorem mUvr_ok {st : List Value} {bad : mC} {f : Value → Nat → List Value → mC} (h : (mUvr st bad f).1 = true) (hb : bad.1 = false) : ∃ v a r, st = v :: .ref a :: r := by
  unfold mUvr at h
  split at h
  · exact ⟨_, _, _, rfl⟩
  · rw [hb] at h; cases h
theorem mUv_ok {st : List Value} {bad : mC} {f : Value → List Value → mC} (h : (mUv st bad f).1 = true) (hb : bad.1 = false) : ∃ v r, st = v :: r := by
  unfold mUv at h
  split at h
  · exact ⟨_, _, rfl⟩
  · rw [hb] at h; cases h
theorem mUvv_ok {st : List Value} {bad : mC} {f : Value → Value → List Value → mC} (h : (mUvv st bad f).1 = true) (hb : bad.1 = false) : ∃ v w r, st = v :: w :: r := by
  unfold mUvv at h
  split at h
  · exact ⟨_, _, _, rfl⟩
  · rw [hb] at h; cases h
theorem mUc_ok {st : List Value} {bad : mC} {f : Int32 → Int32 → Nat → Int32 → Nat → List Value → mC} (h : (mUc st bad f).1 = true) (hb : bad.1 = false) : ∃ n dp d sp a r, st = .int n :: .int dp :: .ref d :: .int sp :: .ref a :: r := by
  unfold mUc at h
  split at h
  · exact ⟨_, _, _, _, _, _, rfl⟩
  · rw [hb] at h; cases h
/-! addresses -/
theorem mCv_ref {G : mG} {r : Nat} (h : r < 900000) : mCv G (.ref r) = .ref (G.1 + r) := by
  show va_rf (mRo G r) = _
  unfold mRo mAd NUL
  rw [if_neg (by omega), if_pos h]
  rfl
theorem mCv_cat {G : mG} (v : Value) : (mCv G v).category = v.category := by
  cases v with
  | ref i =>
    show (va_rf (mRo G i)).category = 1
    unfold mRo
    split <;> rfl
  | _ => rfl
theorem mCv_get {G : mG} {h : mHp} {r k a : Nat} {ty : FieldType} : mCv G (mGet a h r k ty) = mFv G h r k ty := by
  cases ty <;> rfl
theorem mIn_in {i : Int32} {n : Nat} (h : mIn i n = true) : vp_in i n := by
  unfold mIn at h
  simp only [Bool.and_eq_true, Bool.not_eq_true', decide_eq_true_eq, decide_eq_false_iff_not] at h
  intro z
  rcases z with z | z
  · exact h.1 z
  · omega
theorem chO_ok {h : mHp} {r c : Nat} (z : chO h r c = true) : r < hN h ∧ hS h r = .inl c := by
  unfold chO kAO at z
  rw [Bool.and_eq_true] at z
  refine ⟨Nat.blt_eq.mp z.1, ?_⟩
  have z2 := z.2
  split at z2
  · rename_i x e
    rw [e, Nat.eq_of_beq_eq_true z2]
  · cases z2
theorem chI_ok {h : mHp} {r : Nat} {i : Int32} (z : chI h r i = true) : r < hN h ∧ ∃ n, hS h r = .inr (.int, n) ∧ vp_in i n := by
  unfold chI kAI at z
  rw [Bool.and_eq_true] at z
  refine ⟨Nat.blt_eq.mp z.1, ?_⟩
  have z2 := z.2
  split at z2
  · rename_i n e
    exact ⟨n, e, mIn_in z2⟩
  · cases z2
theorem chB_ok {h : mHp} {r : Nat} {i : Int32} (z : chB h r i = true) : r < hN h ∧ ∃ n, (hS h r = .inr (.byte, n) ∨ hS h r = .inr (.boolean, n)) ∧ vp_in i n := by
  unfold chB kAB at z
  rw [Bool.and_eq_true] at z
  refine ⟨Nat.blt_eq.mp z.1, ?_⟩
  have z2 := z.2
  split at z2
  · rename_i n e
    exact ⟨n, Or.inl e, mIn_in z2⟩
  · rename_i n e
    exact ⟨n, Or.inr e, mIn_in z2⟩
  · cases z2
theorem chJ_ok {h : mHp} {r : Nat} {i : Int32} (z : chJ h r i = true) : r < hN h ∧ ∃ n, hS h r = .inr (.long, n) ∧ vp_in i n := by
  unfold chJ kAJ at z
  rw [Bool.and_eq_true] at z
  refine ⟨Nat.blt_eq.mp z.1, ?_⟩
  have z2 := z.2
  split at z2
  · rename_i n e
    exact ⟨n, e, mIn_in z2⟩
  · cases z2
theorem chR_ok {h : mHp} {r : Nat} {i : Int32} (z : chR h r i = true) : r < hN h ∧ ∃ n, hS h r = .inr (.array .int, n) ∧ vp_in i n := by
  unfold chR kAR at z
  rw [Bool.and_eq_true] at z
  refine ⟨Nat.blt_eq.mp z.1, ?_⟩
  have z2 := z.2
  split at z2
  · rename_i n e
    exact ⟨n, e, mIn_in z2⟩
  · cases z2
theorem chL_ok {h : mHp} {r : Nat} (z : chL h r = true) : r < hN h ∧ hS h r = .inr (.int, mLen h r) := by
  unfold chL kAL at z
  rw [Bool.and_eq_true] at z
  refine ⟨Nat.blt_eq.mp z.1, ?_⟩
  have z2 := z.2
  unfold mLen kLen
  split at z2
  · rename_i n e
    rw [e]
  · cases z2
theorem mEl_O {G : mG} {h : mHp} {r c : Nat} (e : hS h r = .inl c) : mEl G h r = .inr (c, (List.range (mNf c)).map (fun k => mFv G h r k (mTy c k))) := by
  unfold mEl
  rw [e]
theorem mEl_A {G : mG} {h : mHp} {r n : Nat} {ty : FieldType} (e : hS h r = .inr (ty, n)) : mEl G h r = .inl (G.2.2.2.2 ty, mAr G h r n ty) := by
  unfold mEl
  rw [e]
theorem mFs_get {G : mG} {h : mHp} {r c k : Nat} (hk : k < mNf c) : ((List.range (mNf c)).map (fun k => mFv G h r k (mTy c k)))[k]? = some (mFv G h r k (mTy c k)) := by
  rw [List.getElem?_map, List.getElem?_range hk]
  rfl
/-! the locals -/
def mLv (G : mG) (L : List Value) : List (Nat × Value) := (List.range L.length).filterMap (fun i => match L.getD i (.retAddr 0) with
  | .retAddr _ => none
  | v => some (i, mCv G v))
theorem mLv_mem {G : mG} {L : List Value} {q : Nat × Value} : q ∈ mLv G L ↔ ∃ v, q.1 < L.length ∧ L.getD q.1 (.retAddr 0) = v ∧ (∀ n, v ≠ .retAddr n) ∧ q.2 = mCv G v := by
  unfold mLv
  rw [List.mem_filterMap]
  constructor
  · rintro ⟨i, hi, e⟩
    rw [List.mem_range] at hi
    cases hv : L.getD i (.retAddr 0) with
    | retAddr n => rw [hv] at e; cases e
    | _ => rw [hv] at e; cases e; exact ⟨_, hi, hv, (fun n z => by cases z), rfl⟩
  · rintro ⟨v, hi, hv, hn, e⟩
    refine ⟨q.1, List.mem_range.mpr hi, ?_⟩
    rw [hv]
    cases v with
    | retAddr n => exact absurd rfl (hn n)
    | _ => exact congrArg some (Prod.ext rfl e.symm)
theorem mLv_at {G : mG} {L : List Value} {ls : Array Slot} {nL i : Nat} {v : Value} (h : lv_has ls nL (mLv G L)) (hv : L.getD i (.retAddr 0) = v) (hn : ∀ n, v ≠ .retAddr n) : ls[i]? = some (.val (mCv G v)) := by
  have hi : i < L.length := by
    rcases Nat.lt_or_ge i L.length with z | z
    · exact z
    · rw [show L.getD i (.retAddr 0) = .retAddr 0 by simp [List.getD, List.getElem?_eq_none z]] at hv
      exact absurd hv.symm (hn 0)
  exact h.2.2 (i, mCv G v) (mLv_mem.mpr ⟨v, hi, hv, hn, rfl⟩)
theorem mFix_len (L : List Value) (i : Nat) : (mFix L i).length = L.length := by
  cases i with
  | zero => rfl
  | succ j =>
    unfold mFix
    simp only
    split <;> simp
theorem mFix_at {L : List Value} {i j : Nat} {w : Value} (h : (mFix L i).getD j (.retAddr 0) = w) (hw : ∀ n, w ≠ .retAddr n) : L.getD j (.retAddr 0) = w ∧ (j + 1 = i → w.category = 1) := by
  have gone : ∀ k, (L.set k (.retAddr 0)).getD j (.retAddr 0) = w → j ≠ k ∧ L.getD j (.retAddr 0) = w := by
    intro k hk
    by_cases e : j = k
    · exfalso
      subst e
      by_cases hl : j < L.length
      · rw [show (L.set j (.retAddr 0)).getD j (.retAddr 0) = .retAddr 0 by simp [List.getD, hl]] at hk
        exact hw 0 hk.symm
      · rw [show (L.set j (.retAddr 0)).getD j (.retAddr 0) = .retAddr 0 by simp [List.getD, List.getElem?_eq_none (show (L.set j (.retAddr 0)).length ≤ j by simp; omega)]] at hk
        exact hw 0 hk.symm
    · refine ⟨e, ?_⟩
      rw [← hk]
      simp [List.getD, List.getElem?_set_ne (Ne.symm e)]
  cases i with
  | zero => exact ⟨h, fun z => by omega⟩
  | succ k =>
    unfold mFix at h
    simp only at h
    split at h
    · obtain ⟨g1, g2⟩ := gone k h
      exact ⟨g2, fun z => by omega⟩
    · obtain ⟨g1, g2⟩ := gone k h
      exact ⟨g2, fun z => by omega⟩
    · rename_i h1 h2
      refine ⟨h, fun z => ?_⟩
      obtain rfl : j = k := by omega
      rw [h] at h1 h2
      cases w with
      | long x => exact absurd rfl (h1 x)
      | double x => exact absurd rfl (h2 x)
      | _ => rfl
theorem mLv_set {G : mG} {L : List Value} {ls : Array Slot} {nL i : Nat} {v : Value} (h : lv_has ls nL ((i, mCv G v) :: (mLv G L).filter (fun q => !(q.1 == i) && !(q.1 + 1 == i && q.2.category == 2)))) : lv_has ls nL (mLv G ((mFix L i).set i v)) := by
  refine ⟨h.1, h.2.1, fun q hq => ?_⟩
  obtain ⟨w, h1, h2, h3, h4⟩ := mLv_mem.mp hq
  rw [List.length_set] at h1
  by_cases e : q.1 = i
  · rw [e] at h2 h1
    have e2 : w = v := by
      rw [← h2]
      simp [List.getD, h1]
    have e3 : q = (i, mCv G v) := by
      obtain ⟨q1, q2⟩ := q
      simp only at e h4
      rw [e, h4, e2]
    rw [e3]
    exact h.2.2 _ List.mem_cons_self
  · have h5 : (mFix L i).getD q.1 (.retAddr 0) = w := by
      rw [← h2]
      simp [List.getD, List.getElem?_set_ne (Ne.symm e)]
    obtain ⟨h6, h7⟩ := mFix_at h5 h3
    rw [mFix_len] at h1
    refine h.2.2 q (List.mem_cons_of_mem _ (List.mem_filter.mpr ⟨mLv_mem.mpr ⟨w, h1, h6, h3, h4⟩, ?_⟩))
    simp only [Bool.and_eq_true, Bool.not_eq_true', beq_eq_false_iff_ne, Bool.and_eq_false_iff]
    refine ⟨e, ?_⟩
    by_cases e6 : q.1 + 1 = i
    · right
      rw [h4, mCv_cat, h7 e6]
      decide
    · left
      exact e6
theorem mLv_set2 {G : mG} {L : List Value} {ls : Array Slot} {nL i : Nat} {x : Int64} (h : lv_has ls nL ((i, Value.long x) :: (mLv G L).filter (fun q => !(q.1 == i) && (!(q.1 == i + 1) && !(q.1 + 1 == i && q.2.category == 2))))) : lv_has ls nL (mLv G (((mFix L i).set i (.long x)).set (i + 1) (.retAddr 0))) := by
  refine ⟨h.1, h.2.1, fun q hq => ?_⟩
  obtain ⟨w, h1, h2, h3, h4⟩ := mLv_mem.mp hq
  rw [List.length_set, List.length_set] at h1
  by_cases e0 : q.1 = i + 1
  · refine absurd ?_ (h3 0)
    rw [← h2, e0]
    rw [e0] at h1
    simp [List.getD, h1]
  by_cases e : q.1 = i
  · rw [e] at h2 h1
    have e2 : w = .long x := by
      rw [← h2]
      simp [List.getD, h1, List.getElem?_set_ne (show i + 1 ≠ i by omega)]
    have e3 : q = (i, Value.long x) := by
      obtain ⟨q1, q2⟩ := q
      simp only at e h4
      rw [e, h4, e2]
      rfl
    rw [e3]
    exact h.2.2 _ List.mem_cons_self
  · have h5 : (mFix L i).getD q.1 (.retAddr 0) = w := by
      rw [← h2]
      simp [List.getD, List.getElem?_set_ne (Ne.symm e), List.getElem?_set_ne (Ne.symm e0)]
    obtain ⟨h6, h7⟩ := mFix_at h5 h3
    rw [mFix_len] at h1
    refine h.2.2 q (List.mem_cons_of_mem _ (List.mem_filter.mpr ⟨mLv_mem.mpr ⟨w, h1, h6, h3, h4⟩, ?_⟩))
    simp only [Bool.and_eq_true, Bool.not_eq_true', beq_eq_false_iff_ne, Bool.and_eq_false_iff]
    refine ⟨e, e0, ?_⟩
    by_cases e6 : q.1 + 1 = i
    · right
      rw [h4, mCv_cat, h7 e6]
      decide
    · left
      exact e6
end
section
/-! THE JUDGEMENT, and that it goes back over a step. -/
def mAO (U : State) : Prop := (Cond.arrayOver (.array .int)).before #[] U = true
theorem mAO_use {A : Array Value} {U : State} (h : mAO U) : (Cond.arrayOver (.array .int)).before A U = true := h
theorem mAO_moved {u U : State} (hvm : u.vm.Alike U.vm) (h : mAO u) : mAO U := by
  have key : ∃ comp c k, u.vm.findClass (FieldType.array .int).toString = some comp ∧ (u.vm.classes.findIdx? fun (x : Class) => match x.kind with | .array component _ => component == comp | _ => false) = some c ∧ u.vm.classes[c]? = some k ∧ k.kind = .array comp (.array .int) ∧ u.vm.findClass ("[" ++ (FieldType.array .int).toString) = some c := by
    unfold mAO Cond.before Cond.holds at h
    simp only [Cond.value, beq_iff_eq] at h
    cases hc : u.vm.findClass (FieldType.array .int).toString with
    | none => simp [hc] at h
    | some comp =>
      simp only [hc, Option.bind_some, Option.bind_eq_some_iff, Option.map_eq_some_iff] at h
      obtain ⟨c, h2, k, h3, h4⟩ := h
      refine ⟨comp, c, k, rfl, h2, h3, ?_⟩
      cases hk : k.kind with
      | array cm ty =>
        rw [hk] at h4
        simp only [Bool.and_eq_true, decide_eq_true_eq] at h4
        have hc2 : cm = comp := by
          have h5 := Array.findIdx?_eq_some_iff_getElem.mp h2
          obtain ⟨hl, h6, -⟩ := h5
          have h7 : u.vm.classes[c]? = some u.vm.classes[c] := Array.getElem?_eq_getElem hl
          rw [h3] at h7
          have h8 : u.vm.classes[c] = k := (Option.some.inj h7).symm
          rw [h8, hk] at h6
          simpa using h6
        rw [hc2, h4.1]
        exact ⟨rfl, h4.2⟩
      | _ => rw [hk] at h4; cases h4
  obtain ⟨comp, c, k, h1, h2, h3, h4, h5⟩ := key
  obtain ⟨k', hk', he⟩ := hvm.2.2 _ _ h3
  have hi : (U.vm.classes.findIdx? fun (x : Class) => match x.kind with | .array component _ => component == comp | _ => false) = some c := by
    have hbe : U.vm.bare = u.vm.bare := by first | exact hvm.bare_eq | exact hvm.bare_eq.symm
    refine (va_idx_bare U.vm comp).symm.trans ?_
    rw [hbe]
    exact (va_idx_bare u.vm comp).trans h2
  have hkind : k'.kind = .array comp (.array .int) := by rw [he]; exact h4
  have f1 : U.vm.findClass (FieldType.array .int).toString = some comp := by rw [hvm.findClass]; exact h1
  have f2 : U.vm.findClass ("[" ++ (FieldType.array .int).toString) = some c := by rw [hvm.findClass]; exact h5
  unfold mAO Cond.before Cond.holds
  simp only [Cond.value]
  rw [f1, Option.bind_some]
  refine (congrArg (fun o : Option Nat => (o.bind (fun c => (U.vm.classes[c]?).map fun (k : Class) => match k.kind with | .array _ ty => decide (ty = FieldType.array .int) && decide (U.vm.findClass ("[" ++ (FieldType.array .int).toString) = some c) | _ => false) == some true)) hi).trans ?_
  simp [hk', hkind, f2]
def mX (G : mG) (U : State) (H : Heap) : Prop := (∀ (j : Nat) (q : Nat × String), mSt[j]? = some q → vk_R RX4 q.1 q.2 (G.2.1 j) U) ∧ vk_S 15 mStL mStB G.2.1 G.2.2.1 (mA G) U H ∧ (∀ q ∈ mNs, va_Nw (.methodLinkNest q.1 q.2.1 q.2.2.1 q.2.2.2) U) ∧ mAO U ∧ va_Z "java/lang/String" "COMPACT_STRINGS" "Z" (.int 1) (mA G) U H ∧ (∃ f : Nat, (f = NUL ∨ f = 900200) ∧ va_Z "jdk/internal/util/Preconditions" "SIOOBE_FORMATTER" "Ljava/util/function/BiFunction;" (va_rf (mRo G f)) (mA G) U H) ∧ ∀ j, j < 15 → G.2.1 (100 + j) = G.2.2.1 j
/-- what stays the same over a method's body -/
def mCx (p : Program) (R : Room) (s : State) (m : MethodId) (args : Array Value) (meth : Method) (c : Code) (G : mG) (cc : ByteArray) (own : String) (nL : Nat) (fin : Bool) (nM wM n0 w0 : Nat) : Prop :=
  p.tables.exec = Jvm.exec ∧ c.code = cc ∧ c.maxLocals = nL ∧ s.vm.findClass own = some m.cls ∧ (∀ w ∈ mTb, w.before args s = true) ∧ va_K G.2.2.2.1 vwCl (mTys G) s ∧ s.heap.size = G.1 + n0 ∧ mX G s s.heap ∧ (nM ≤ n0 + R.cells ∧ wM ≤ w0 + R.slots ∧ nM ≤ 900000) ∧ (1 ≤ R.frames ∧ 100 ≤ R.locals) ∧ (fin = true → meth.name = "<init>")
/-- from here the machine comes to Q -/
def mW (p : Program) (l : Launch) (e : Env) (R : Room) (s : State) (m : MethodId) (args : Array Value) (below : List Frame) (meth : Method) (c : Code) (G : mG) (nL n0 w0 : Nat) (Q : State → Prop) (f : mC) : Prop :=
  ∀ (H : Heap) (locs : List Loc) (ls : Array Slot), mWd G f.2.2.2.2 H → va_S (mA G) s.heap H locs → lv_has ls nL (mLv G f.2.2.1) → n0 ≤ hN f.2.2.2.2 → w0 ≤ hW f.2.2.2.2 →
    W p l e R s m args below meth c H locs (hN f.2.2.2.2 - n0) (hW f.2.2.2.2 - w0) Q (F0 m f.2.1 ls (f.2.2.2.1.map (mCv G)))
section SO
variable {p : Program} {l : Launch} {e : Env} {R : Room} {s : State} {m : MethodId} {args : Array Value} {below : List Frame} {meth : Method} {c : Code} {Q : State → Prop} {cc : ByteArray} {own : String} {G : mG} {nL n0 w0 nM wM : Nat} {fin : Bool}
theorem mA_ge (C : mCx p R s m args meth c G cc own nL fin nM wM n0 w0) : ∀ q, s.heap.size ≤ q → mA G q := fun q hq => by
  have := C.2.2.2.2.2.2.1
  show G.1 ≤ q
  omega
theorem W_sz {H : Heap} {locs : List Loc} {cells slots : Nat} {g : JFrame} (k : H.size ≤ s.heap.size + cells → W p l e R s m args below meth c H locs cells slots Q g) : W p l e R s m args below meth c H locs cells slots Q g := by
  intro T hT X
  have h1 := X.same.2.2.1
  exact k (by rw [← hT]; exact h1) T hT X
theorem mWd_sz {H : Heap} {h : mHp} (hw : mWd G h H) (h0 : s.heap.size = G.1 + n0) (h1 : H.size ≤ s.heap.size + (hN h - n0)) (h2 : n0 ≤ hN h) (h3 : s.heap.size ≤ H.size) : H.size = G.1 + hN h := by
  rcases Nat.eq_zero_or_pos (hN h) with z | z
  · omega
  · have h4 := (hw.1 (hN h - 1) _ (mWs_get (by omega))).lt
    simp only at h4
    omega
/-- a load -/
theorem so_ld {pc pc' i cat : Nat} {ok : Bool} {L st : List Value} {h : mHp} (hok : (mLd ok pc' L st h i cat).1 = true)
    (k : mW p l e R s m args below meth c G nL n0 w0 Q (mLd ok pc' L st h i cat))
    (hi : cat = 0 → ∀ (x : Int32) (H : Heap) (locs : List Loc) (cells slots : Nat) (ls : Array Slot) (rest : List Value), ls[i]? = some (.val (.int x)) → W p l e R s m args below meth c H locs cells slots Q (F0 m pc' ls (.int x :: rest)) → W p l e R s m args below meth c H locs cells slots Q (F0 m pc ls rest))
    (ha : cat = 1 → ∀ (x : Option Nat) (H : Heap) (locs : List Loc) (cells slots : Nat) (ls : Array Slot) (rest : List Value), ls[i]? = some (.val (va_rf x)) → W p l e R s m args below meth c H locs cells slots Q (F0 m pc' ls (va_rf x :: rest)) → W p l e R s m args below meth c H locs cells slots Q (F0 m pc ls rest))
    (hl : cat = 2 → ∀ (x : Int64) (H : Heap) (locs : List Loc) (cells slots : Nat) (ls : Array Slot) (rest : List Value), ls[i]? = some (.val (.long x)) → W p l e R s m args below meth c H locs cells slots Q (F0 m pc' ls (.long x :: rest)) → W p l e R s m args below meth c H locs cells slots Q (F0 m pc ls rest)) :
    mW p l e R s m args below meth c G nL n0 w0 Q (ok, pc, L, st, h) := by
  intro H locs ls hw hS hv h0 h1
  unfold mLd at hok k
  split at hok
  · rename_i x e
    rw [e] at k
    exact hi rfl x H locs _ _ ls _ (mLv_at (v := .int x) hv e (fun n z => by cases z)) (k H locs ls hw hS hv h0 h1)
  · rename_i x e
    rw [e] at k
    exact ha rfl (mRo G x) H locs _ _ ls _ (mLv_at (v := .ref x) hv e (fun n z => by cases z)) (k H locs ls hw hS hv h0 h1)
  · rename_i x e
    rw [e] at k
    exact hl rfl x H locs _ _ ls _ (mLv_at (v := .long x) hv e (fun n z => by cases z)) (k H locs ls hw hS hv h0 h1)
  · cases hok
/-- a load of a reference, null or not -/
theorem so_aload (hx : p.tables.exec = Jvm.exec) (hb : c.code = cc) {i pc : Nat} {x : Option Nat} {H : Heap} {locs : List Loc} {cells slots : Nat} {ls : Array Slot} {rest : List Value} (hd : decode cc pc = .ok (.aload i, 2)) (hl : ls[i]? = some (.val (va_rf x)))
    (k : W p l e R s m args below meth c H locs cells slots Q (F0 m (pc + 2) ls (va_rf x :: rest))) : W p l e R s m args below meth c H locs cells slots Q (F0 m pc ls rest) := by
  cases x with
  | none => exact lv_aloadN hx hb hd hl k
  | some y => exact lv_aload hx hb hd hl k
theorem so_aload_n (hx : p.tables.exec = Jvm.exec) (hb : c.code = cc) {i : Fin 4} {pc : Nat} {x : Option Nat} {H : Heap} {locs : List Loc} {cells slots : Nat} {ls : Array Slot} {rest : List Value} (hd : decode cc pc = .ok (.aload_n i, 1)) (hl : ls[(i : Nat)]? = some (.val (va_rf x)))
    (k : W p l e R s m args below meth c H locs cells slots Q (F0 m (pc + 1) ls (va_rf x :: rest))) : W p l e R s m args below meth c H locs cells slots Q (F0 m pc ls rest) := by
  cases x with
  | none => exact lv_aload_nN hx hb hd rfl hl k
  | some y => exact lv_aload_n hx hb hd rfl hl k
/-- a store -/
theorem so_sto {pc pc' i cat : Nat} {ok : Bool} {L st : List Value} {h : mHp} (hsi : i < nL) (hs2 : cat = 2 → i + 1 < nL) (hok : (mSto ok pc' nL L st h i cat).1 = true)
    (k : mW p l e R s m args below meth c G nL n0 w0 Q (mSto ok pc' nL L st h i cat))
    (hi : cat = 0 → i < nL → ∀ (x : Int32) (H : Heap) (locs : List Loc) (cells slots : Nat) (ls : Array Slot) (rest : List Value) (lv : List (Nat × Value)), lv_has ls nL lv → (∀ ls' : Array Slot, lv_has ls' nL ((i, Value.int x) :: lv.filter (fun q => !(q.1 == i) && !(q.1 + 1 == i && q.2.category == 2))) → W p l e R s m args below meth c H locs cells slots Q (F0 m pc' ls' rest)) → W p l e R s m args below meth c H locs cells slots Q (F0 m pc ls (.int x :: rest)))
    (ha : cat = 1 → i < nL → ∀ (x : Option Nat) (H : Heap) (locs : List Loc) (cells slots : Nat) (ls : Array Slot) (rest : List Value) (lv : List (Nat × Value)), lv_has ls nL lv → (∀ ls' : Array Slot, lv_has ls' nL ((i, va_rf x) :: lv.filter (fun q => !(q.1 == i) && !(q.1 + 1 == i && q.2.category == 2))) → W p l e R s m args below meth c H locs cells slots Q (F0 m pc' ls' rest)) → W p l e R s m args below meth c H locs cells slots Q (F0 m pc ls (va_rf x :: rest)))
    (hl : cat = 2 → i + 1 < nL → ∀ (x : Int64) (H : Heap) (locs : List Loc) (cells slots : Nat) (ls : Array Slot) (rest : List Value) (lv : List (Nat × Value)), lv_has ls nL lv → (∀ ls' : Array Slot, lv_has ls' nL ((i, Value.long x) :: lv.filter (fun q => !(q.1 == i) && (!(q.1 == i + 1) && !(q.1 + 1 == i && q.2.category == 2)))) → W p l e R s m args below meth c H locs cells slots Q (F0 m pc' ls' rest)) → W p l e R s m args below meth c H locs cells slots Q (F0 m pc ls (.long x :: rest))) :
    mW p l e R s m args below meth c G nL n0 w0 Q (ok, pc, L, st, h) := by
  intro H locs ls hw hS hv h0 h1
  unfold mSto at hok k
  split at hok
  · rename_i x r
    exact hi rfl hsi x H locs _ _ ls _ _ hv (fun ls' hl' => k H locs ls' hw hS (mLv_set (v := .int x) hl') h0 h1)
  · rename_i x r
    exact ha rfl hsi (mRo G x) H locs _ _ ls _ _ hv (fun ls' hl' => k H locs ls' hw hS (mLv_set (v := .ref x) hl') h0 h1)
  · rename_i x r
    exact hl rfl (hs2 rfl) x H locs _ _ ls _ _ hv (fun ls' hl' => k H locs ls' hw hS (mLv_set2 (x := x) hl') h0 h1)
  · cases hok
theorem so_astore (hx : p.tables.exec = Jvm.exec) (hb : c.code = cc) {i pc : Nat} {x : Option Nat} {H : Heap} {locs : List Loc} {cells slots : Nat} {ls : Array Slot} {rest : List Value} {lv : List (Nat × Value)} (hd : decode cc pc = .ok (.astore i, 2)) (hn : i < nL) (h : lv_has ls nL lv)
    (k : ∀ ls' : Array Slot, lv_has ls' nL ((i, va_rf x) :: lv.filter (fun q => !(q.1 == i) && !(q.1 + 1 == i && q.2.category == 2))) → W p l e R s m args below meth c H locs cells slots Q (F0 m (pc + 2) ls' rest)) : W p l e R s m args below meth c H locs cells slots Q (F0 m pc ls (va_rf x :: rest)) := by
  cases x with
  | none => exact lv_astoreN hx hb hd h hn rfl k
  | some y => exact lv_astore hx hb hd h hn rfl k
theorem so_astore_n (hx : p.tables.exec = Jvm.exec) (hb : c.code = cc) {i : Fin 4} {pc : Nat} {x : Option Nat} {H : Heap} {locs : List Loc} {cells slots : Nat} {ls : Array Slot} {rest : List Value} {lv : List (Nat × Value)} (hd : decode cc pc = .ok (.astore_n i, 1)) (hn : (i : Nat) < nL) (h : lv_has ls nL lv)
    (k : ∀ ls' : Array Slot, lv_has ls' nL (((i : Nat), va_rf x) :: lv.filter (fun q => !(q.1 == (i : Nat)) && !(q.1 + 1 == (i : Nat) && q.2.category == 2))) → W p l e R s m args below meth c H locs cells slots Q (F0 m (pc + 1) ls' rest)) : W p l e R s m args below meth c H locs cells slots Q (F0 m pc ls (va_rf x :: rest)) := by
  cases x with
  | none => exact lv_astore_nN hx hb hd rfl h hn rfl k
  | some y => exact lv_astore_n hx hb hd rfl h hn rfl k
/-- a branch on two ints -/
theorem so_icmp (hx : p.tables.exec = Jvm.exec) (hb : c.code = cc) {cnd : ClassFile.Cond} {pc tgt : Nat} {off : Int} {x y : Int32} {H : Heap} {locs : List Loc} {cells slots : Nat} {ls : Array Slot} {rest : List Value} (hd : decode cc pc = .ok (.if_icmp cnd off, 3)) (ht : (pc : Int) + off = (tgt : Int))
    (k : W p l e R s m args below meth c H locs cells slots Q (F0 m (mCond cnd x y tgt (pc + 3)) ls rest)) : W p l e R s m args below meth c H locs cells slots Q (F0 m pc ls (.int y :: .int x :: rest)) := by
  cases cnd with
  | eq => exact lv_icmp_eq hx hb hd ht (fun z => by simpa [mCond, z] using k) (fun z => by simpa [mCond, z] using k)
  | ne => exact lv_icmp_ne hx hb hd ht (fun z => by simpa [mCond, z] using k) (fun z => by simpa [mCond, z] using k)
  | lt => exact lv_icmp_lt hx hb hd ht (fun z => by rw [mCond, if_pos z] at k; exact k) (fun z => by rw [mCond, if_neg z] at k; exact k)
  | ge => exact lv_icmp_ge hx hb hd ht (fun z => by rw [mCond, if_pos z] at k; exact k) (fun z => by rw [mCond, if_neg z] at k; exact k)
  | gt => exact lv_icmp_gt hx hb hd ht (fun z => by rw [mCond, if_pos z] at k; exact k) (fun z => by rw [mCond, if_neg z] at k; exact k)
  | le => exact lv_icmp_le hx hb hd ht (fun z => by rw [mCond, if_pos z] at k; exact k) (fun z => by rw [mCond, if_neg z] at k; exact k)
theorem so_icnd (hx : p.tables.exec = Jvm.exec) (hb : c.code = cc) {cnd : ClassFile.Cond} {pc tgt : Nat} {off : Int} {x : Int32} {H : Heap} {locs : List Loc} {cells slots : Nat} {ls : Array Slot} {rest : List Value} (hd : decode cc pc = .ok (.ifCond cnd off, 3)) (ht : (pc : Int) + off = (tgt : Int))
    (k : W p l e R s m args below meth c H locs cells slots Q (F0 m (mCond cnd x 0 tgt (pc + 3)) ls rest)) : W p l e R s m args below meth c H locs cells slots Q (F0 m pc ls (.int x :: rest)) := by
  cases cnd with
  | eq => exact lv_if_eq hx hb hd ht (fun z => by simpa [mCond, z] using k) (fun z => by simpa [mCond, z] using k)
  | ne => exact lv_if_ne hx hb hd ht (fun z => by simpa [mCond, z] using k) (fun z => by simpa [mCond, z] using k)
  | lt => exact lv_if_lt hx hb hd ht (fun z => by rw [mCond, if_pos z] at k; exact k) (fun z => by rw [mCond, if_neg z] at k; exact k)
  | ge => exact lv_if_ge hx hb hd ht (fun z => by rw [mCond, if_pos z] at k; exact k) (fun z => by rw [mCond, if_neg z] at k; exact k)
  | gt => exact lv_if_gt hx hb hd ht (fun z => by rw [mCond, if_pos z] at k; exact k) (fun z => by rw [mCond, if_neg z] at k; exact k)
  | le => exact lv_if_le hx hb hd ht (fun z => by rw [mCond, if_pos z] at k; exact k) (fun z => by rw [mCond, if_neg z] at k; exact k)
theorem mTk_ok {pc : Nat} {off : Int} (h : mTk pc off = true) : (pc : Int) + off = (mTg pc off : Int) := by
  have h1 : 0 ≤ (pc : Int) + off := of_decide_eq_true h
  unfold mTg
  omega
/-- a table's place -/
theorem mTab_in {pc : Nat} {d : Int} {x : Int32} : ∀ (os : List Int) (lo : Int), -2147483648 ≤ lo → lo + (os.length : Int) ≤ 2147483648 → ¬ x.toInt < lo → x.toInt < lo + (os.length : Int) → ∃ o, os[(x.toInt - lo).toNat]? = some o ∧ mTab pc os lo d x = mTg pc o
  | [], lo, h1, h2, h3, h4 => by simp at h4; omega
  | o :: os, lo, h1, h2, h3, h4 => by
    have h5 : ((o :: os).length : Int) = (os.length : Int) + 1 := by simp
    rw [h5] at h2 h4
    by_cases e : x = Int32.ofInt lo
    · have e2 : x.toInt = lo := by rw [e]; exact Int32.toInt_ofInt_of_le (by simpa using h1) (by omega)
      refine ⟨o, ?_, ?_⟩
      · rw [e2]; simp
      · unfold mTab
        rw [if_pos e]
    · have e2 : x.toInt ≠ lo := fun z => e (by
        rw [← z]; exact (Int32.ofInt_toInt x).symm)
      obtain ⟨o', g1, g2⟩ := mTab_in (pc := pc) (d := d) (x := x) os (lo + 1) (by omega) (by omega) (by omega) (by omega)
      refine ⟨o', ?_, ?_⟩
      · have e3 : (x.toInt - lo).toNat = (x.toInt - (lo + 1)).toNat + 1 := by omega
        rw [e3]; simpa using g1
      · unfold mTab
        rw [if_neg e]; exact g2
theorem mTab_out {pc : Nat} {d : Int} {x : Int32} : ∀ (os : List Int) (lo : Int), -2147483648 ≤ lo → lo + (os.length : Int) ≤ 2147483648 → (x.toInt < lo ∨ lo + (os.length : Int) ≤ x.toInt) → mTab pc os lo d x = mTg pc d
  | [], lo, h1, h2, h3 => rfl
  | o :: os, lo, h1, h2, h3 => by
    have h5 : ((o :: os).length : Int) = (os.length : Int) + 1 := by simp
    rw [h5] at h2 h3
    have e : ¬ x = Int32.ofInt lo := fun z => by
      have e2 : x.toInt = lo := by rw [z]; exact Int32.toInt_ofInt_of_le (by simpa using h1) (by omega)
      omega
    unfold mTab
    rw [if_neg e]
    exact mTab_out (pc := pc) (d := d) (x := x) os (lo + 1) (by omega) (by omega) (by omega)
theorem mLkp_eq {pc : Nat} {d : Int} {x : Int32} : ∀ (ps : List (Int × Int)), mLkp pc ps d x = mTg pc (Op.lookupswitch.offset ps d x.toInt) ∧ (Op.lookupswitch.offset ps d x.toInt = d ∨ Op.lookupswitch.offset ps d x.toInt ∈ ps.map (fun q => q.2))
  | [] => ⟨rfl, Or.inl rfl⟩
  | (v, o) :: ps => by
    obtain ⟨h1, h2⟩ := mLkp_eq (pc := pc) (d := d) (x := x) ps
    rw [Op.lookupswitch.offset_cons]
    unfold mLkp
    by_cases e : v = x.toInt
    · rw [if_pos e, if_pos e]
      exact ⟨rfl, Or.inr (by simp)⟩
    · rw [if_neg e, if_neg e]
      refine ⟨h1, ?_⟩
      rcases h2 with h2 | h2
      · exact Or.inl h2
      · exact Or.inr (List.mem_cons_of_mem _ h2)
end SO
end
section
/-! the words of the classes' fields are among the tables' -/
set_option maxRecDepth 100000 in
theorem uwX0 : ∀ w ∈ u_ws RX0 TX0 5, w ∈ mTb := by decide +kernel
set_option maxRecDepth 100000 in
theorem uwX1 : ∀ w ∈ u_ws RX1 TX1 4, w ∈ mTb := by decide +kernel
set_option maxRecDepth 100000 in
theorem uwX2 : ∀ w ∈ u_ws RX2 TX2 6, w ∈ mTb := by decide +kernel
set_option maxRecDepth 100000 in
theorem uwX3 : ∀ w ∈ u_ws RX3 TX3 9, w ∈ mTb := by decide +kernel
set_option maxRecDepth 100000 in
theorem uwX4 : ∀ w ∈ u_ws RX4 TX4 10, w ∈ mTb := by decide +kernel
set_option maxRecDepth 100000 in
theorem uwX5 : ∀ w ∈ u_ws RX5 TX5 6, w ∈ mTb := by decide +kernel
set_option maxRecDepth 100000 in
theorem uwX6 : ∀ w ∈ u_ws RX6 TX6 9, w ∈ mTb := by decide +kernel
set_option maxRecDepth 100000 in
theorem uwX7 : ∀ w ∈ u_ws RX7 TX7 5, w ∈ mTb := by decide +kernel
set_option maxRecDepth 100000 in
theorem uwX8 : ∀ w ∈ u_ws RX8 TX8 12, w ∈ mTb := by decide +kernel
set_option maxRecDepth 100000 in
theorem uwX9 : ∀ w ∈ u_ws RX9 TX9 3, w ∈ mTb := by decide +kernel
set_option maxRecDepth 100000 in
theorem uwX10 : ∀ w ∈ u_ws RX10 TX10 15, w ∈ mTb := by decide +kernel
set_option maxRecDepth 100000 in
theorem uwX11 : ∀ w ∈ u_ws RX11 TX11 15, w ∈ mTb := by decide +kernel
set_option maxRecDepth 100000 in
theorem uwX12 : ∀ w ∈ u_ws RX12 TX12 73, w ∈ mTb := by decide +kernel
theorem mCl_in {a : Nat} {r : vw_C} (h : vwCl[a]? = some r) : ∀ w ∈ u_ws r.1 r.2.1 r.2.2, w ∈ mTb := by
  match a, h with
  | 0, h => cases h; exact uwX0
  | 1, h => cases h; exact uwX1
  | 2, h => cases h; exact uwX2
  | 3, h => cases h; exact uwX3
  | 4, h => cases h; exact uwX4
  | 5, h => cases h; exact uwX5
  | 6, h => cases h; exact uwX6
  | 7, h => cases h; exact uwX7
  | 8, h => cases h; exact uwX8
  | 9, h => cases h; exact uwX9
  | 10, h => cases h; exact uwX10
  | 11, h => cases h; exact uwX11
  | 12, h => cases h; exact uwX12
  | n + 13, h => cases h
set_option maxRecDepth 100000 in
theorem mTy_nf0 : ∀ a, a < 13 → ∀ k, k < mNf a → (mTy a k ≠ .float ∧ mTy a k ≠ .double) := by decide +kernel
theorem mCl_lt {a : Nat} {r : vw_C} (h : vwCl[a]? = some r) : a < 13 := by
  have := (List.getElem?_eq_some_iff.mp h).1
  exact this
end
section
/-! THE STEPS THAT READ AND WRITE CELLS. -/
theorem mFs_set {G : mG} {h h' : mHp} {r c b : Nat} {v : Value} (hv : mFv G h' r b (mTy c b) = v) (ho : ∀ k, k ≠ b → mFv G h' r k (mTy c k) = mFv G h r k (mTy c k)) : ((List.range (mNf c)).map (fun k => mFv G h r k (mTy c k))).set b v = (List.range (mNf c)).map (fun k => mFv G h' r k (mTy c k)) := by
  apply List.ext_getElem?
  intro k
  by_cases hk : k < mNf c
  · rw [mFs_get hk]
    by_cases e : k = b
    · subst e
      rw [List.getElem?_set_self (by simpa using hk), hv]
    · rw [List.getElem?_set_ne (Ne.symm e), mFs_get hk, ho k e]
  · rw [List.getElem?_eq_none (by simp; omega), List.getElem?_eq_none (by simp; omega)]
theorem mup_ne {α : Type} {f : Nat → α} {k j : Nat} {v : α} (h : j ≠ k) : va_up f k v j = f j := by
  unfold va_up
  rw [if_neg h]
theorem mup_at {α : Type} {f : Nat → α} {k : Nat} {v : α} : va_up f k v k = v := by
  unfold va_up
  rw [if_pos rfl]
theorem mFv_putI {G : mG} {h : mHp} {r k b : Nat} {x : Int32} {ty : FieldType} (hk : k ≠ b) : mFv G (putI h r b x) r k ty = mFv G h r k ty := by
  have e : hI (putI h r b x) r k = hI h r k := by
    show up2 h.1 r b x r k = h.1 r k
    rw [up2_at, mup_ne hk]
  cases ty <;> first | rfl | (show Value.int (hI (putI h r b x) r k) = Value.int (hI h r k); rw [e])
theorem mFv_putJ {G : mG} {h : mHp} {r k b : Nat} {x : Int64} {ty : FieldType} (hk : k ≠ b) : mFv G (putJ h r b x) r k ty = mFv G h r k ty := by
  have e : hJ (putJ h r b x) r k = hJ h r k := by
    show up2 h.2.1 r b x r k = h.2.1 r k
    rw [up2_at, mup_ne hk]
  cases ty <;> first | rfl | (show Value.long (hJ (putJ h r b x) r k) = Value.long (hJ h r k); rw [e])
theorem mFv_putR {G : mG} {h : mHp} {r k b x : Nat} {ty : FieldType} (hk : k ≠ b) : mFv G (putR h r b x) r k ty = mFv G h r k ty := by
  have e : hR (putR h r b x) r k = hR h r k := by
    show up2 h.2.2.1 r b x r k = h.2.2.1 r k
    rw [up2_at, mup_ne hk]
  cases ty <;> first | rfl | (show va_rf (mRo G (hR (putR h r b x) r k)) = va_rf (mRo G (hR h r k)); rw [e])
/-- a put: the heap then, and that the value fits -/
def mPF (G : mG) (h : mHp) (r c b : Nat) (v : Value) (h' : mHp) : Prop :=
    hN h' = hN h ∧ hW h' = hW h ∧ narrow (mTy c b) (mCv G v) = mCv G v ∧ fits (mTy c b) (mCv G v) = true ∧
    mEl G h' r = .inr (c, ((List.range (mNf c)).map (fun k => mFv G h r k (mTy c k))).set b (mCv G v)) ∧ ∀ j, j ≠ r → mEl G h' j = mEl G h j
theorem mPF_key {G : mG} {h h' : mHp} {r c b : Nat} {v : Value} (hs : hS h r = .inl c) (e1 : hS h' r = hS h r) (e2 : mFv G h' r b (mTy c b) = mCv G v) (e3 : ∀ k, k ≠ b → mFv G h' r k (mTy c k) = mFv G h r k (mTy c k)) : mEl G h' r = .inr (c, ((List.range (mNf c)).map (fun k => mFv G h r k (mTy c k))).set b (mCv G v)) := by
  rw [mEl_O (e1.trans hs), mFs_set e2 e3]
theorem mPF_I {G : mG} {h : mHp} {r c b : Nat} {x : Int32} {ty : FieldType} (ht : mTy c b = ty) (hty : ty = .int ∨ ty = .boolean ∨ ty = .char) (hs : hS h r = .inl c) (hf : mFit ty x = true) : mPF G h r c b (.int x) (putI h r b x) := by
  have eI : hI (putI h r b x) r b = x := by
    show up2 h.1 r b x r b = x
    rw [up2_at, mup_at]
  have e2 : mFv G (putI h r b x) r b (mTy c b) = mCv G (.int x) := by
    rw [ht]
    rcases hty with rfl | rfl | rfl <;> (show Value.int (hI (putI h r b x) r b) = _; rw [eI]; rfl)
  have e3 : narrow (mTy c b) (.int x) = .int x ∧ fits (mTy c b) (.int x) = true := by
    rw [ht]
    rcases hty with rfl | rfl | rfl
    · exact ⟨rfl, rfl⟩
    · have z1 : x = 0 ∨ x = 1 := of_decide_eq_true hf
      rcases z1 with rfl | rfl <;> decide
    · have z1 : (decide (narrow .char (.int x) = .int x) && fits .char (.int x)) = true := hf
      rw [Bool.and_eq_true] at z1
      exact ⟨of_decide_eq_true z1.1, z1.2⟩
  exact ⟨rfl, rfl, e3.1, e3.2, mPF_key hs rfl e2 (fun k hk => mFv_putI hk), fun j hj => mEl_putI hj⟩
theorem mPF_J {G : mG} {h : mHp} {r c b : Nat} {x : Int64} (ht : mTy c b = .long) (hs : hS h r = .inl c) : mPF G h r c b (.long x) (putJ h r b x) := by
  have eJ : hJ (putJ h r b x) r b = x := by
    show up2 h.2.1 r b x r b = x
    rw [up2_at, mup_at]
  have e2 : mFv G (putJ h r b x) r b (mTy c b) = mCv G (.long x) := by
    rw [ht]
    show Value.long (hJ (putJ h r b x) r b) = _
    rw [eJ]; rfl
  exact ⟨rfl, rfl, by rw [ht]; rfl, by rw [ht]; rfl, mPF_key hs rfl e2 (fun k hk => mFv_putJ hk), fun j hj => mEl_putJ hj⟩
theorem mPF_R {G : mG} {h : mHp} {r c b x : Nat} (ht : (∃ n, mTy c b = .object n) ∨ ∃ t, mTy c b = .array t) (hs : hS h r = .inl c) : mPF G h r c b (.ref x) (putR h r b x) := by
  have eR : hR (putR h r b x) r b = x := by
    show up2 h.2.2.1 r b x r b = x
    rw [up2_at, mup_at]
  have e2 : mFv G (putR h r b x) r b (mTy c b) = mCv G (.ref x) := by
    rcases ht with ⟨n, ht⟩ | ⟨t, ht⟩ <;> (rw [ht]; show va_rf (mRo G (hR (putR h r b x) r b)) = _; rw [eR]; rfl)
  have fr : narrow (mTy c b) (mCv G (.ref x)) = mCv G (.ref x) ∧ fits (mTy c b) (mCv G (.ref x)) = true := by
    show narrow (mTy c b) (va_rf (mRo G x)) = va_rf (mRo G x) ∧ fits (mTy c b) (va_rf (mRo G x)) = true
    rcases ht with ⟨n, ht⟩ | ⟨t, ht⟩ <;> rw [ht] <;> cases mRo G x <;> exact ⟨rfl, rfl⟩
  exact ⟨rfl, rfl, fr.1, fr.2, mPF_key hs rfl e2 (fun k hk => mFv_putR hk), fun j hj => mEl_putR hj⟩
section SH
variable {p : Program} {l : Launch} {e : Env} {R : Room} {s : State} {m : MethodId} {args : Array Value} {below : List Frame} {meth : Method} {c : Code} {Q : State → Prop} {cc : ByteArray} {own : String} {G : mG} {nL n0 w0 nM wM : Nat} {fin : Bool}
theorem so_get (C : mCx p R s m args meth c G cc own nL fin nM wM n0 w0) {i pc a b r : Nat} {ok ok' : Bool} {L t : List Value} {h : mHp} (hd : decode cc pc = .ok (.getfield i, 3)) (he : ∃ r0 : vw_C, vwCl[a]? = some r0 ∧ Cond.fieldLink own i (r0.2.1 b).1 (r0.2.1 b).2.1 (r0.2.1 b).2.2.1 ∈ mTb) (hr : r < hN h) (hs : hS h r = .inl a) (hb : b < mNf a)
    (k : mW p l e R s m args below meth c G nL n0 w0 Q (ok', pc + 3, L, mGet a h r b (mTy a b) :: t, h)) : mW p l e R s m args below meth c G nL n0 w0 Q (ok, pc, L, .ref r :: t, h) := by
  obtain ⟨r0, hc, hlk⟩ := he
  obtain ⟨hx, hcb, hml, hown, hts, hK, hsz, hX, hnm, hfr, hfin⟩ := C
  intro H locs ls hw hS hv h0 h1
  have hr9 : r < 900000 := Nat.lt_of_lt_of_le hr hw.2
  show W p l e R s m args below meth c H locs _ _ Q (F0 m pc ls (mCv G (.ref r) :: t.map (mCv G)))
  rw [mCv_ref hr9]
  refine va_get (D := G.2.2.2.1) (ci := a) (C := r0.1) (T := r0.2.1) (N := r0.2.2) (v := mFv G h r b (mTy a b)) hx hcb hts (mCl_in hc) hown hK hw.1 r (by rw [mWs_get hr, mEl_O hs]) hc b (by rw [← mCl_nf hc]; exact hb) (hts _ hlk) (fun _ z => z) (mFs_get hb) hd ?_
  have k1 := k H locs ls hw hS hv h0 h1
  rw [← mCv_get (a := a)]
  exact k1
theorem so_put (C : mCx p R s m args meth c G cc own nL fin nM wM n0 w0) {i pc a b r : Nat} {ok ok' : Bool} {L t : List Value} {h : mHp} {v : Value} (hd : decode cc pc = .ok (.putfield i, 3)) (he : ∃ r0 : vw_C, vwCl[a]? = some r0 ∧ Cond.fieldLink own i (r0.2.1 b).1 (r0.2.1 b).2.1 (r0.2.1 b).2.2.1 ∈ mTb ∧ (mFin a b = true → (r0.2.1 b).1 = own)) (hr : r < hN h) (hs : hS h r = .inl a) (hb : b < mNf a) (hf : (!(mFin a b) || fin) = true) {h' : mHp} (hp : mPF G h r a b v h')
    (k : mW p l e R s m args below meth c G nL n0 w0 Q (ok', pc + 3, L, t, h')) : mW p l e R s m args below meth c G nL n0 w0 Q (ok, pc, L, v :: .ref r :: t, h) := by
  obtain ⟨r0, hc, hlk, hownf⟩ := he
  obtain ⟨hx, hcb, hml, hown, hts, hK, hsz, hX, hnm, hfr, hfin⟩ := C
  intro H locs ls hw hS hv h0 h1
  have hr9 : r < 900000 := Nat.lt_of_lt_of_le hr hw.2
  obtain ⟨e1, e2, e3, e4, e5, e6⟩ := hp
  show W p l e R s m args below meth c H locs _ _ Q (F0 m pc ls (mCv G v :: mCv G (.ref r) :: t.map (mCv G)))
  rw [mCv_ref hr9]
  have hbn : b < r0.2.2 := by rw [← mCl_nf hc]; exact hb
  have hset : (mWs G h).set r (G.1 + r, .inr (a, ((List.range (mNf a)).map (fun k => mFv G h r k (mTy a k))).set b (mCv G v))) = mWs G h' := mWs_set e1 hr e5 (fun j _ hj => e6 j hj)
  have go : ∀ (H1 : Heap) (locs1 : List Loc), va_P G.2.2.2.1 vwCl ((mWs G h).set r (G.1 + r, .inr (a, ((List.range (mNf a)).map (fun k => mFv G h r k (mTy a k))).set b (mCv G v)))) H1 → va_D (mA G) ((mWs G h).set r (G.1 + r, .inr (a, ((List.range (mNf a)).map (fun k => mFv G h r k (mTy a k))).set b (mCv G v)))) → va_S (mA G) s.heap H1 locs1 → W p l e R s m args below meth c H1 locs1 (hN h - n0) (hW h - w0) Q (F0 m (pc + 3) ls (t.map (mCv G))) := by
    intro H1 locs1 hP1 _ hS1
    rw [hset] at hP1
    have k1 := k H1 locs1 ls ⟨hP1, by rw [e1]; exact hw.2⟩ hS1 hv (by show n0 ≤ hN _; rw [e1]; exact h0) (by show w0 ≤ hW _; rw [e2]; exact h1)
    have k2 : W p l e R s m args below meth c H1 locs1 (hN h' - n0) (hW h' - w0) Q (F0 m (pc + 3) ls (t.map (mCv G))) := k1
    rw [e1, e2] at k2
    exact k2
  by_cases hfi : mFin a b = true
  · have hft : fin = true := by rw [hfi] at hf; simpa using hf
    exact va_putF (D := G.2.2.2.1) (ci := a) (v := mCv G v) (ty := mTy a b) (C := r0.1) (T := r0.2.1) (N := r0.2.2) hx hcb hts (mCl_in hc) (mTy a) (mCl_ty hc) (mCl_nm hc) hown hK hw.1 mWs_D hS r (by rw [mWs_get hr, mEl_O hs]) hc b hbn (hts _ hlk) (fun _ z => z) (by rw [← mCl_fin hc]; exact hfi) (hfin hft) (hownf hfi) (mCl_ty hc b hbn) e3 e4 (by simpa using hb) hd go
  · exact va_put (D := G.2.2.2.1) (ci := a) (v := mCv G v) (ty := mTy a b) (C := r0.1) (T := r0.2.1) (N := r0.2.2) hx hcb hts (mCl_in hc) (mTy a) (mCl_ty hc) (mCl_nm hc) hown hK hw.1 mWs_D hS r (by rw [mWs_get hr, mEl_O hs]) hc b hbn (hts _ hlk) (fun _ z => z) (by rw [← mCl_fin hc]; simpa using hfi) (mCl_ty hc b hbn) e3 e4 (by simpa using hb) hd go
/-- a read of an array -/
theorem so_iald (C : mCx p R s m args meth c G cc own nL fin nM wM n0 w0) {pc r n : Nat} {i : Int32} {ok ok' : Bool} {L t : List Value} {h : mHp} (hd : decode cc pc = .ok (.iaload, 1)) (hr : r < hN h) (hs : hS h r = .inr (.int, n)) (hi : vp_in i n)
    (k : mW p l e R s m args below meth c G nL n0 w0 Q (ok', pc + 1, L, .int (hI h r (mIx i)) :: t, h)) : mW p l e R s m args below meth c G nL n0 w0 Q (ok, pc, L, .int i :: .ref r :: t, h) := by
  obtain ⟨hx, hcb, hml, hown, hts, hK, hsz, hX, hnm, hfr, hfin⟩ := C
  intro H locs ls hw hS hv h0 h1
  show W p l e R s m args below meth c H locs _ _ Q (F0 m pc ls (.int i :: mCv G (.ref r) :: t.map (mCv G)))
  rw [mCv_ref (Nat.lt_of_lt_of_le hr hw.2)]
  exact va_iald hx hcb hK hw.1 r 0 (by rw [mWs_get hr, mEl_A hs]; rfl) rfl hi hd (k H locs ls hw hS hv h0 h1)
theorem so_bald (C : mCx p R s m args meth c G cc own nL fin nM wM n0 w0) {pc r n : Nat} {i : Int32} {ok ok' : Bool} {L t : List Value} {h : mHp} (hd : decode cc pc = .ok (.baload, 1)) (hr : r < hN h) (hs : hS h r = .inr (.byte, n) ∨ hS h r = .inr (.boolean, n)) (hi : vp_in i n)
    (k : mW p l e R s m args below meth c G nL n0 w0 Q (ok', pc + 1, L, .int (hI h r (mIx i)) :: t, h)) : mW p l e R s m args below meth c G nL n0 w0 Q (ok, pc, L, .int i :: .ref r :: t, h) := by
  obtain ⟨hx, hcb, hml, hown, hts, hK, hsz, hX, hnm, hfr, hfin⟩ := C
  intro H locs ls hw hS hv h0 h1
  show W p l e R s m args below meth c H locs _ _ Q (F0 m pc ls (.int i :: mCv G (.ref r) :: t.map (mCv G)))
  rw [mCv_ref (Nat.lt_of_lt_of_le hr hw.2)]
  rcases hs with hs | hs
  · exact va_bald hx hcb hK hw.1 r 1 (by rw [mWs_get hr, mEl_A hs]; rfl) rfl hi hd (k H locs ls hw hS hv h0 h1)
  · exact va_zald hx hcb hK hw.1 r 2 (by rw [mWs_get hr, mEl_A hs]; rfl) rfl hi hd (k H locs ls hw hS hv h0 h1)
theorem so_lald (C : mCx p R s m args meth c G cc own nL fin nM wM n0 w0) {pc r n : Nat} {i : Int32} {ok ok' : Bool} {L t : List Value} {h : mHp} (hd : decode cc pc = .ok (.laload, 1)) (hr : r < hN h) (hs : hS h r = .inr (.long, n)) (hi : vp_in i n)
    (k : mW p l e R s m args below meth c G nL n0 w0 Q (ok', pc + 1, L, .long (hJ h r (mIx i)) :: t, h)) : mW p l e R s m args below meth c G nL n0 w0 Q (ok, pc, L, .int i :: .ref r :: t, h) := by
  obtain ⟨hx, hcb, hml, hown, hts, hK, hsz, hX, hnm, hfr, hfin⟩ := C
  intro H locs ls hw hS hv h0 h1
  show W p l e R s m args below meth c H locs _ _ Q (F0 m pc ls (.int i :: mCv G (.ref r) :: t.map (mCv G)))
  rw [mCv_ref (Nat.lt_of_lt_of_le hr hw.2)]
  exact va_lald hx hcb hK hw.1 r 3 (by rw [mWs_get hr, mEl_A hs]; rfl) rfl hi hd (k H locs ls hw hS hv h0 h1)
theorem so_aald (C : mCx p R s m args meth c G cc own nL fin nM wM n0 w0) {pc r n : Nat} {i : Int32} {ok ok' : Bool} {L t : List Value} {h : mHp} (hd : decode cc pc = .ok (.aaload, 1)) (hr : r < hN h) (hs : hS h r = .inr (.array .int, n)) (hi : vp_in i n)
    (k : mW p l e R s m args below meth c G nL n0 w0 Q (ok', pc + 1, L, .ref (hR h r (mIx i)) :: t, h)) : mW p l e R s m args below meth c G nL n0 w0 Q (ok, pc, L, .int i :: .ref r :: t, h) := by
  obtain ⟨hx, hcb, hml, hown, hts, hK, hsz, hX, hnm, hfr, hfin⟩ := C
  intro H locs ls hw hS hv h0 h1
  show W p l e R s m args below meth c H locs _ _ Q (F0 m pc ls (.int i :: mCv G (.ref r) :: t.map (mCv G)))
  rw [mCv_ref (Nat.lt_of_lt_of_le hr hw.2)]
  have hlt : i.toNatClampNeg < n := Nat.not_le.mp fun q => hi (Or.inr q)
  have ha : (mWs G h)[r]? = some (G.1 + r, .inl (G.2.2.2.2 (.array .int), n, .inr (.inr (.inr (.inr (fun k => mRo G (hR h r k))))))) := by rw [mWs_get hr, mEl_A hs]; rfl
  exact W.aald (v := va_rf (mRo G (hR h r (mIx i)))) (ty := .array .int) hx hcb (hw.1 r _ ha) ((hK.2 4 _ rfl).1 n (fun j => va_rf (mRo G (hR h r j)))) rfl (fun q => by cases q) (by show ¬ (i < 0 ∨ (arrV _ _ _).slots.size ≤ _); rw [arrV_size]; exact hi) (by show (arrV _ _ _).slots[_]? = _; rw [arrV_read _ _ hlt]; rfl) rfl rfl hd (k H locs ls hw hS hv h0 h1)
theorem so_alen (C : mCx p R s m args meth c G cc own nL fin nM wM n0 w0) {pc r n : Nat} {ok ok' : Bool} {L t : List Value} {h : mHp} (hd : decode cc pc = .ok (.arraylength, 1)) (hr : r < hN h) (hs : hS h r = .inr (.int, n))
    (k : mW p l e R s m args below meth c G nL n0 w0 Q (ok', pc + 1, L, .int (Int32.ofNat n) :: t, h)) : mW p l e R s m args below meth c G nL n0 w0 Q (ok, pc, L, .ref r :: t, h) := by
  obtain ⟨hx, hcb, hml, hown, hts, hK, hsz, hX, hnm, hfr, hfin⟩ := C
  intro H locs ls hw hS hv h0 h1
  show W p l e R s m args below meth c H locs _ _ Q (F0 m pc ls (mCv G (.ref r) :: t.map (mCv G)))
  rw [mCv_ref (Nat.lt_of_lt_of_le hr hw.2)]
  exact va_alen (x := mAr G h r n .int) (v := Int32.ofNat n) hx hcb hK hw.1 r 0 (by rw [mWs_get hr, mEl_A hs]) rfl rfl hd (k H locs ls hw hS hv h0 h1)
/-- a write of an int array -/
theorem so_iast (C : mCx p R s m args meth c G cc own nL fin nM wM n0 w0) {pc r n : Nat} {i x : Int32} {ok ok' : Bool} {L t : List Value} {h : mHp} (hd : decode cc pc = .ok (.iastore, 1)) (hr : r < hN h) (hs : hS h r = .inr (.int, n)) (hi : vp_in i n)
    (k : mW p l e R s m args below meth c G nL n0 w0 Q (ok', pc + 1, L, t, putI h r (mIx i) x)) : mW p l e R s m args below meth c G nL n0 w0 Q (ok, pc, L, .int x :: .int i :: .ref r :: t, h) := by
  obtain ⟨hx, hcb, hml, hown, hts, hK, hsz, hX, hnm, hfr, hfin⟩ := C
  intro H locs ls hw hS hv h0 h1
  show W p l e R s m args below meth c H locs _ _ Q (F0 m pc ls (.int x :: .int i :: mCv G (.ref r) :: t.map (mCv G)))
  rw [mCv_ref (Nat.lt_of_lt_of_le hr hw.2)]
  have hset : (mWs G h).set r (G.1 + r, .inl (G.2.2.2.2 .int, n, .inl (upd (hI h r) (mIx i) x))) = mWs G (putI h r (mIx i) x) := mWs_set rfl hr (by
    rw [mEl_A (h := putI h r (mIx i) x) (n := n) (ty := .int) hs]
    show Sum.inl (_, n, Sum.inl (hI (putI h r (mIx i) x) r)) = _
    rw [show hI (putI h r (mIx i) x) r = va_up (hI h r) (mIx i) x from up2_at]
    rfl) (fun j _ hj => mEl_putI hj)
  refine va_iast hx hcb hK hw.1 mWs_D hS r 0 (cA := G.2.2.2.2 .int) (n := n) (f := hI h r) (by rw [mWs_get hr, mEl_A hs]; rfl) rfl hi hd fun H1 locs1 hP1 _ hS1 => ?_
  rw [show i.toNatClampNeg = mIx i from rfl, hset] at hP1
  exact k H1 locs1 ls ⟨hP1, hw.2⟩ hS1 hv h0 h1
theorem so_bast (C : mCx p R s m args meth c G cc own nL fin nM wM n0 w0) {pc r n : Nat} {i x : Int32} {ok ok' : Bool} {L t : List Value} {h : mHp} (hd : decode cc pc = .ok (.bastore, 1)) (hr : r < hN h) (hs : hS h r = .inr (.byte, n) ∨ hS h r = .inr (.boolean, n)) (hi : vp_in i n)
    (k : mW p l e R s m args below meth c G nL n0 w0 Q (ok', pc + 1, L, t, putI h r (mIx i) (mNar h r x))) : mW p l e R s m args below meth c G nL n0 w0 Q (ok, pc, L, .int x :: .int i :: .ref r :: t, h) := by
  obtain ⟨hx, hcb, hml, hown, hts, hK, hsz, hX, hnm, hfr, hfin⟩ := C
  intro H locs ls hw hS hv h0 h1
  show W p l e R s m args below meth c H locs _ _ Q (F0 m pc ls (.int x :: .int i :: mCv G (.ref r) :: t.map (mCv G)))
  rw [mCv_ref (Nat.lt_of_lt_of_le hr hw.2)]
  rcases hs with hs | hs
  · have en : mNar h r x = vp_nar .byte x := by unfold mNar; rw [hs]; rfl
    rw [en] at k
    have hset : (mWs G h).set r (G.1 + r, .inl (G.2.2.2.2 .byte, n, .inl (upd (hI h r) (mIx i) (vp_nar .byte x)))) = mWs G (putI h r (mIx i) (vp_nar .byte x)) := mWs_set rfl hr (by
      rw [mEl_A (h := putI h r (mIx i) (vp_nar .byte x)) (n := n) (ty := .byte) hs]
      show Sum.inl (_, n, Sum.inl (hI (putI h r (mIx i) (vp_nar .byte x)) r)) = _
      rw [show hI (putI h r (mIx i) (vp_nar .byte x)) r = va_up (hI h r) (mIx i) (vp_nar .byte x) from up2_at]
      rfl) (fun j _ hj => mEl_putI hj)
    refine va_bast hx hcb hK hw.1 mWs_D hS r 1 (cA := G.2.2.2.2 .byte) (n := n) (f := hI h r) (by rw [mWs_get hr, mEl_A hs]; rfl) rfl hi hd fun H1 locs1 hP1 _ hS1 => ?_
    rw [show i.toNatClampNeg = mIx i from rfl, hset] at hP1
    exact k H1 locs1 ls ⟨hP1, hw.2⟩ hS1 hv h0 h1
  · have en : mNar h r x = vp_nar .boolean x := by unfold mNar; rw [hs]; rfl
    rw [en] at k
    have hset : (mWs G h).set r (G.1 + r, .inl (G.2.2.2.2 .boolean, n, .inl (upd (hI h r) (mIx i) (vp_nar .boolean x)))) = mWs G (putI h r (mIx i) (vp_nar .boolean x)) := mWs_set rfl hr (by
      rw [mEl_A (h := putI h r (mIx i) (vp_nar .boolean x)) (n := n) (ty := .boolean) hs]
      show Sum.inl (_, n, Sum.inl (hI (putI h r (mIx i) (vp_nar .boolean x)) r)) = _
      rw [show hI (putI h r (mIx i) (vp_nar .boolean x)) r = va_up (hI h r) (mIx i) (vp_nar .boolean x) from up2_at]
      rfl) (fun j _ hj => mEl_putI hj)
    refine va_zast hx hcb hK hw.1 mWs_D hS r 2 (cA := G.2.2.2.2 .boolean) (n := n) (f := hI h r) (by rw [mWs_get hr, mEl_A hs]; rfl) rfl hi hd fun H1 locs1 hP1 _ hS1 => ?_
    rw [show i.toNatClampNeg = mIx i from rfl, hset] at hP1
    exact k H1 locs1 ls ⟨hP1, hw.2⟩ hS1 hv h0 h1
theorem so_last (C : mCx p R s m args meth c G cc own nL fin nM wM n0 w0) {pc r n : Nat} {i : Int32} {x : Int64} {ok ok' : Bool} {L t : List Value} {h : mHp} (hd : decode cc pc = .ok (.lastore, 1)) (hr : r < hN h) (hs : hS h r = .inr (.long, n)) (hi : vp_in i n)
    (k : mW p l e R s m args below meth c G nL n0 w0 Q (ok', pc + 1, L, t, putJ h r (mIx i) x)) : mW p l e R s m args below meth c G nL n0 w0 Q (ok, pc, L, .long x :: .int i :: .ref r :: t, h) := by
  obtain ⟨hx, hcb, hml, hown, hts, hK, hsz, hX, hnm, hfr, hfin⟩ := C
  intro H locs ls hw hS hv h0 h1
  show W p l e R s m args below meth c H locs _ _ Q (F0 m pc ls (.long x :: .int i :: mCv G (.ref r) :: t.map (mCv G)))
  rw [mCv_ref (Nat.lt_of_lt_of_le hr hw.2)]
  have hset : (mWs G h).set r (G.1 + r, .inl (G.2.2.2.2 .long, n, .inr (.inl (vp_updL (hJ h r) (mIx i) x)))) = mWs G (putJ h r (mIx i) x) := mWs_set rfl hr (by
    rw [mEl_A (h := putJ h r (mIx i) x) (n := n) (ty := .long) hs]
    show Sum.inl (_, n, Sum.inr (Sum.inl (hJ (putJ h r (mIx i) x) r))) = _
    rw [show hJ (putJ h r (mIx i) x) r = va_up (hJ h r) (mIx i) x from up2_at]
    rfl) (fun j _ hj => mEl_putJ hj)
  refine va_last hx hcb hK hw.1 mWs_D hS r 3 (cA := G.2.2.2.2 .long) (n := n) (f := hJ h r) (by rw [mWs_get hr, mEl_A hs]; rfl) rfl hi hd fun H1 locs1 hP1 _ hS1 => ?_
  rw [show i.toNatClampNeg = mIx i from rfl, hset] at hP1
  exact k H1 locs1 ls ⟨hP1, hw.2⟩ hS1 hv h0 h1
theorem mw_native : nativeFrameWords "java/lang/System" "arraycopy" 5 + 11 + 8 ≤ 100 := by decide
theorem mw_tbl1 : Cond.native arraycopyName ∈ mTb ∧ Cond.static arraycopyName ∈ mTb ∧ Cond.initialized "java/lang/System" ∈ mTb := by decide +kernel
theorem mCv_cats {t : List Value} : ((t.map (mCv G)).map fun v => v.category) = t.map fun v => v.category := by
  rw [List.map_map]
  apply List.map_congr_left
  intro v _
  exact mCv_cat v
theorem so_copy (C : mCx p R s m args meth c G cc own nL fin nM wM n0 w0) {i pc a d : Nat} {sp dp n : Int32} {ok ok' : Bool} {L : List Value} {h : mHp} (hd : decode cc pc = .ok (.invokestatic i, 3)) (he : Cond.methodLink own i arraycopyName ∈ mTb) (hc : chC h a d sp dp n = true)
    (k : mW p l e R s m args below meth c G nL n0 w0 Q (ok', pc + 3, L, [], cpyI h a d sp dp n)) : mW p l e R s m args below meth c G nL n0 w0 Q (ok, pc, L, [.int n, .int dp, .ref d, .int sp, .ref a], h) := by
  obtain ⟨hx, hcb, hml, hown, hts, hK, hsz, hX, hnm, hfr, hfin⟩ := C
  intro H locs ls hw hS hv h0 h1
  unfold chC cpOk at hc
  simp only [Bool.and_eq_true, Bool.not_eq_true', decide_eq_true_eq, decide_eq_false_iff_not] at hc
  obtain ⟨⟨c1, c2⟩, ⟨⟨c3, c4⟩, c5⟩, c6, c7⟩ := hc
  obtain ⟨ha, sa⟩ := chL_ok c1
  obtain ⟨hdn, sd⟩ := chL_ok c2
  show W p l e R s m args below meth c H locs _ _ Q (F0 m pc ls (.int n :: .int dp :: mCv G (.ref d) :: .int sp :: mCv G (.ref a) :: []))
  rw [mCv_ref (Nat.lt_of_lt_of_le ha hw.2), mCv_ref (Nat.lt_of_lt_of_le hdn hw.2)]
  have hset : (mWs G h).set d (G.1 + d, .inl (G.2.2.2.2 .int, mLen h d, .inl (va_cpy (hI h a) (hI h d) (mIx sp) (mIx dp) (mIx n)))) = mWs G (cpyI h a d sp dp n) := mWs_set rfl hdn (by
    rw [mEl_A (h := cpyI h a d sp dp n) (n := mLen h d) (ty := .int) sd]
    show Sum.inl (_, mLen h d, Sum.inl (hI (cpyI h a d sp dp n) d)) = _
    rw [show hI (cpyI h a d sp dp n) d = va_cpy (hI h a) (hI h d) (mIx sp) (mIx dp) (mIx n) from mup_at]) (fun j _ hj => mEl_eq rfl (mup_ne hj) rfl rfl)
  refine va_copyi (ty := .int) hx hcb (by rw [hml]; exact hv.1.symm) hown (hts _ he) (hts _ mw_tbl1.1) (hts _ mw_tbl1.2.1) (hts _ mw_tbl1.2.2) hK hw.1 mWs_D hS a d 0 0 (n0 := mLen h a) (n1 := mLen h d) (f := hI h a) (g := hI h d) (by rw [mWs_get ha, mEl_A sa]; rfl) (by rw [mWs_get hdn, mEl_A sd]; rfl) rfl rfl rfl c3 c4 c5 c6 c7 (fun _ _ => rfl) hfr.1 (by show 0 + _ ≤ R.locals; have := mw_native; omega) hd fun H1 locs1 hP1 _ hS1 => ?_
  have hP2 : va_P G.2.2.2.1 vwCl ((mWs G h).set d (G.1 + d, .inl (G.2.2.2.2 .int, mLen h d, .inl (va_cpy (hI h a) (hI h d) (mIx sp) (mIx dp) (mIx n))))) H1 := hP1
  rw [hset] at hP2
  exact k H1 locs1 ls ⟨hP2, hw.2⟩ hS1 hv h0 h1
end SH
end
section
/-! THE STEPS THAT MAKE CELLS. -/
section SM
variable {p : Program} {l : Launch} {e : Env} {R : Room} {s : State} {m : MethodId} {args : Array Value} {below : List Frame} {meth : Method} {c : Code} {Q : State → Prop} {cc : ByteArray} {own : String} {G : mG} {nL n0 w0 nM wM : Nat} {fin : Bool}
theorem mRo_NUL : va_rf (mRo G NUL) = .null := by
  unfold mRo
  rw [if_pos rfl]
  rfl
theorem mFv_new {h : mHp} {i k : Nat} {ty : FieldType} (hi : hI h i k = 0) (hj : hJ h i k = 0) (hr : hR h i k = NUL) (h1 : ty ≠ .float) (h2 : ty ≠ .double) : defaultValue ty = mFv G h i k ty := by
  cases ty with
  | float => exact absurd rfl h1
  | double => exact absurd rfl h2
  | long => show Value.long 0 = Value.long (hJ h i k); rw [hj]
  | object n => show Value.null = va_rf (mRo G (hR h i k)); rw [hr, mRo_NUL]
  | array t => show Value.null = va_rf (mRo G (hR h i k)); rw [hr, mRo_NUL]
  | _ => show Value.int 0 = Value.int (hI h i k); rw [hi]
theorem so_new (C : mCx p R s m args meth c G cc own nL fin nM wM n0 w0) {i pc a : Nat} {ok ok' : Bool} {L t : List Value} {h : mHp} (hd : decode cc pc = .ok (.new i, 3)) (he : ∃ r0 : vw_C, vwCl[a]? = some r0 ∧ Cond.classLink own i r0.1 ∈ mTb ∧ Cond.instantiable r0.1 r0.2.2 ∈ mTb ∧ Cond.initialized r0.1 ∈ mTb) (hn : hN h + 1 ≤ nM) (hm : hW h + mNf a ≤ wM)
    (k : mW p l e R s m args below meth c G nL n0 w0 Q (ok', pc + 3, L, .ref (hN h) :: t, newO h a (mNf a))) : mW p l e R s m args below meth c G nL n0 w0 Q (ok, pc, L, t, h) := by
  obtain ⟨r0, hc, g1, g2, g3⟩ := he
  have hA := mA_ge C
  obtain ⟨hx, hcb, hml, hown, hts, hK, hsz, hX, hnm, hfr, hfin⟩ := C
  intro H locs ls hw hQ hv h0 h1
  have h0 : n0 ≤ hN h := h0
  have h1 : w0 ≤ hW h := h1
  have hnf := mCl_nf hc
  refine W_sz fun hz => ?_
  have hsz2 : H.size = G.1 + hN h := mWd_sz hw hsz hz h0 hQ.1
  have hKn := hK.1 a _ hc
  refine W.newcK hx hcb hown (hts _ g1) (hts _ g2) (hts _ g3) rfl hd (by show hN h - n0 + 1 ≤ R.cells; omega) (by show hW h - w0 + r0.2.2 ≤ R.slots; omega) hKn.2.1 hsz2 fun H1 kC hkC e1 z1 o1 => ?_
  have hk : ∀ (k : Nat) (x : Nat × va_E), (mWs G h)[k]? = some x → H1[x.1]? = H[x.1]? := fun k x hx => o1 x.1 (by have := (hw.1 k x hx).lt; omega)
  have hS1 : hS (newO h a (mNf a)) (hN h) = .inl a := mup_at
  have hpush : mWs G h ++ [(G.1 + hN h, mEl G (newO h a (mNf a)) (hN h))] = mWs G (newO h a (mNf a)) := mWs_push rfl rfl (fun j hj => mEl_eq (mup_ne (by omega)) (mup_ne (by omega)) (mup_ne (by omega)) (mup_ne (by omega)))
  have hP1 : va_P G.2.2.2.1 vwCl (mWs G (newO h a (mNf a))) H1 := by
    rw [← hpush]
    refine (hw.1.kept hk).app (fun k x hx => ?_)
    have hz0 : k < 1 := (List.getElem?_eq_some_iff.mp hx).1
    rw [show k = 0 by omega] at hx
    cases hx
    rw [mEl_O hS1]
    refine ⟨_, hc, (u_born (mTy a) hts (mCl_in hc) hKn hkC e1 (mCl_ty hc)).to (fun j hj => ?_)⟩
    have hj2 : j < mNf a := by rw [hnf]; exact hj
    have hnf2 := mTy_nf0 a (mCl_lt hc) j hj2
    show defaultValue (mTy a j) = (List.getD _ j .null)
    rw [List.getD, mFs_get hj2]
    exact mFv_new (by show (va_up h.1 (hN h) (fun _ => 0)) (hN h) j = 0; rw [mup_at]) (by show (va_up h.2.1 (hN h) (fun _ => 0)) (hN h) j = 0; rw [mup_at]) (by show (va_up h.2.2.1 (hN h) (fun _ => NUL)) (hN h) j = NUL; rw [mup_at]) hnf2.1 hnf2.2
  have k1 := k H1 locs ls ⟨hP1, by show hN h + 1 ≤ 900000; omega⟩ ⟨by have := hQ.1; omega, fun x h3 h4 => (o1 x (by have := hQ.1; omega)).trans (hQ.2.1 x h3 h4), hQ.2.2⟩ hv (by show n0 ≤ hN h + 1; omega) (by show w0 ≤ hW h + mNf a; omega)
  have k2 : W p l e R s m args below meth c H1 locs (hN h + 1 - n0) (hW h + mNf a - w0) Q (F0 m (pc + 3) ls (mCv G (.ref (hN h)) :: t.map (mCv G))) := k1
  rw [mCv_ref (by omega), hnf] at k2
  have e5 : hN h - n0 + 1 = hN h + 1 - n0 := by omega
  have e6 : hW h - w0 + r0.2.2 = hW h + r0.2.2 - w0 := by omega
  show W p l e R s m args below meth c H1 locs (hN h - n0 + 1) (hW h - w0 + r0.2.2) Q (F0 m (pc + 3) ls (.ref (G.1 + hN h) :: t.map (mCv G)))
  rw [e5, e6]
  exact k2
theorem mK_arr (hK : va_K G.2.2.2.1 vwCl (mTys G) s) (ty : ArrayType) {cA : ClassId} (hb : newarray.typeOf ty = .int ∨ newarray.typeOf ty = .byte ∨ newarray.typeOf ty = .boolean ∨ newarray.typeOf ty = .long) (h : s.vm.findClass ("[" ++ (newarray.typeOf ty).toString) = some cA) : cA = G.2.2.2.2 (newarray.typeOf ty) := by
  rcases hb with e | e | e | e <;> rw [e] at h ⊢
  · exact Option.some.inj (h.symm.trans (hK.2 0 _ rfl).2)
  · exact Option.some.inj (h.symm.trans (hK.2 1 _ rfl).2)
  · exact Option.some.inj (h.symm.trans (hK.2 2 _ rfl).2)
  · exact Option.some.inj (h.symm.trans (hK.2 3 _ rfl).2)
theorem so_newa (C : mCx p R s m args meth c G cc own nL fin nM wM n0 w0) {pc : Nat} {ty : ArrayType} {n : Int32} {ok ok' : Bool} {L t : List Value} {h : mHp} (hd : decode cc pc = .ok (.newarray ty, 2)) (he : Cond.arrayClass (newarray.typeOf ty) ∈ mTb) (hty : newarray.typeOf ty = .int ∨ newarray.typeOf ty = .byte ∨ newarray.typeOf ty = .boolean ∨ newarray.typeOf ty = .long) (hn0 : ¬ n < 0) (hn1 : mIx n ≤ 60000000) (hn : hN h + 1 ≤ nM) (hm : hW h + mIx n ≤ wM)
    (k : mW p l e R s m args below meth c G nL n0 w0 Q (ok', pc + 2, L, .ref (hN h) :: t, newA h (newarray.typeOf ty) (mIx n))) : mW p l e R s m args below meth c G nL n0 w0 Q (ok, pc, L, .int n :: t, h) := by
  have hA := mA_ge C
  obtain ⟨hx, hcb, hml, hown, hts, hK, hsz, hX, hnm, hfr, hfin⟩ := C
  intro H locs ls hw hQ hv h0 h1
  have h0 : n0 ≤ hN h := h0
  have h1 : w0 ≤ hW h := h1
  refine W_sz fun hz => ?_
  have hsz2 : H.size = G.1 + hN h := mWd_sz hw hsz hz h0 hQ.1
  refine va_newaK hx hcb (hts _ he) rfl hd rfl hn0 (N := mIx n) rfl (by rcases hty with e | e | e | e <;> rw [e] <;> (show mIx n * _ ≤ _; simp only [componentBytes]; omega)) (by show hN h - n0 + 1 ≤ R.cells; omega) (by show hW h - w0 + mIx n ≤ R.slots; omega) hsz2 fun H1 cA e1 z1 o1 hAr hNm => ?_
  have hcA := mK_arr hK ty hty hNm
  subst hcA
  have hk : ∀ (k : Nat) (x : Nat × va_E), (mWs G h)[k]? = some x → H1[x.1]? = H[x.1]? := fun k x hx => o1 x.1 (by have := (hw.1 k x hx).lt; omega)
  have hS1 : hS (newA h (newarray.typeOf ty) (mIx n)) (hN h) = .inr (newarray.typeOf ty, mIx n) := mup_at
  have hpush : mWs G h ++ [(G.1 + hN h, mEl G (newA h (newarray.typeOf ty) (mIx n)) (hN h))] = mWs G (newA h (newarray.typeOf ty) (mIx n)) := mWs_push rfl rfl (fun j hj => mEl_eq (mup_ne (by omega)) (mup_ne (by omega)) (mup_ne (by omega)) (mup_ne (by omega)))
  have eI : hI (newA h (newarray.typeOf ty) (mIx n)) (hN h) = fun _ => 0 := mup_at
  have eJ : hJ (newA h (newarray.typeOf ty) (mIx n)) (hN h) = fun _ => 0 := mup_at
  have hP1 : va_P G.2.2.2.1 vwCl (mWs G (newA h (newarray.typeOf ty) (mIx n))) H1 := by
    rw [← hpush]
    refine (hw.1.kept hk).app (fun k x hx => ?_)
    have hz0 : k < 1 := (List.getElem?_eq_some_iff.mp hx).1
    rw [show k = 0 by omega] at hx
    cases hx
    rw [mEl_A hS1]
    show H1[G.1 + hN h]? = some (vp_cell (G.2.2.2.2 (newarray.typeOf ty)) (mAr G (newA h (newarray.typeOf ty) (mIx n)) (hN h) (mIx n) (newarray.typeOf ty)))
    rw [e1]
    have gen : ∀ ft : FieldType, (ft = .int ∨ ft = .byte ∨ ft = .boolean ∨ ft = .long) → ∀ h' : mHp, hI h' (hN h) = (fun _ => 0) → hJ h' (hN h) = (fun _ => 0) → arrV (G.2.2.2.2 ft) (mIx n) (fun _ => defaultValue ft) = vp_cell (G.2.2.2.2 ft) (mAr G h' (hN h) (mIx n) ft) := by
      intro ft hft h' q1 q2
      rcases hft with rfl | rfl | rfl | rfl
      · show _ = arrV _ _ (fun j => .int (hI h' (hN h) j)); rw [q1]; rfl
      · show _ = arrV _ _ (fun j => .int (hI h' (hN h) j)); rw [q1]; rfl
      · show _ = arrV _ _ (fun j => .int (hI h' (hN h) j)); rw [q1]; rfl
      · show _ = arrV _ _ (fun j => .long (hJ h' (hN h) j)); rw [q2]; rfl
    rw [gen _ hty _ eI eJ]
  have k1 := k H1 locs ls ⟨hP1, by show hN h + 1 ≤ 900000; omega⟩ ⟨by have := hQ.1; omega, fun x h3 h4 => (o1 x (by have := hQ.1; omega)).trans (hQ.2.1 x h3 h4), hQ.2.2⟩ hv (by show n0 ≤ hN h + 1; omega) (by show w0 ≤ hW h + mIx n; omega)
  have k2 : W p l e R s m args below meth c H1 locs (hN h + 1 - n0) (hW h + mIx n - w0) Q (F0 m (pc + 2) ls (mCv G (.ref (hN h)) :: t.map (mCv G))) := k1
  rw [mCv_ref (by omega)] at k2
  have e5 : hN h - n0 + 1 = hN h + 1 - n0 := by omega
  have e6 : hW h - w0 + mIx n = hW h + mIx n - w0 := by omega
  show W p l e R s m args below meth c H1 locs (hN h - n0 + 1) (hW h - w0 + mIx n) Q (F0 m (pc + 2) ls (.ref (G.1 + hN h) :: t.map (mCv G)))
  rw [e5, e6]
  exact k2
theorem mr_outer (c : ClassId) (N h0 : Nat) : ∀ i : Nat, Jvm.Free.Multi.outerC c N h0 i = arrV c N (fun j => va_rf (if j < i then some (h0 + 1 + j) else none))
  | 0 => by
    show ({ cls := c, slots := Array.replicate N .null, vm := .none } : Cell) = _
    rw [arrV_new]
    refine congrArg (arrV c N) (funext fun j => ?_)
    simp [va_rf]
  | i + 1 => by
    show (Jvm.Free.Multi.outerC c N h0 i).setSlot i (.ref (h0 + 1 + i)) = _
    rw [mr_outer c N h0 i, arrV_store]
    refine congrArg (arrV c N) (funext fun j => ?_)
    by_cases e : j = i
    · subst e
      simp [updV, va_rf]
    · by_cases h : j < i
      · simp [updV, e, h, Nat.lt_succ_of_lt h]
      · simp [updV, e, h, show ¬ j < i + 1 by omega]
theorem mw_tbl2 : Cond.arrayClass .int ∈ mTb := by decide +kernel
theorem mw_str1 : "[" ++ (FieldType.array .int).toString = "[[I" := by decide
theorem mw_str2 : (FieldType.array .int).toString = "[" ++ FieldType.int.toString := by decide
theorem so_mna (C : mCx p R s m args meth c G cc own nL fin nM wM n0 w0) {i pc : Nat} {n k : Int32} {ok ok' : Bool} {L t : List Value} {h : mHp} (hd : decode cc pc = .ok (.multianewarray i 2, 4)) (he : Cond.classLink own i "[[I" ∈ mTb) (hn0 : ¬ n < 0) (hk0 : ¬ k < 0) (hn1 : mIx n ≤ 60000000) (hk1 : mIx k ≤ 60000000) (hn : hN h + 1 + mIx n ≤ nM) (hm : hW h + mIx n + mIx n * mIx k ≤ wM)
    (kk : mW p l e R s m args below meth c G nL n0 w0 Q (ok', pc + 4, L, .ref (hN h) :: t, newM h (mIx n) (mIx k))) : mW p l e R s m args below meth c G nL n0 w0 Q (ok, pc, L, .int k :: .int n :: t, h) := by
  obtain ⟨hx, hcb, hml, hown, hts, hK, hsz, hX, hnm, hfr, hfin⟩ := C
  intro H locs ls hw hQ hv h0 h1
  have h0 : n0 ≤ hN h := h0
  have h1 : w0 ≤ hW h := h1
  refine W_sz fun hz => ?_
  have hsz2 : H.size = G.1 + hN h := mWd_sz hw hsz hz h0 hQ.1
  intro T hT Xs
  have Xs : Stand p l e R s m args below meth c T locs (hN h - n0) (hW h - w0) := Xs
  obtain ⟨vm₁, cA, comp, -, fA, fC, hO, -, X', step⟩ := Xs.multianewarray2F (ty := .int) hx hown (by rw [mw_str1]; exact hts _ he) (mAO_use hX.2.2.2.1) (hts _ mw_tbl2) (g := F0 m pc ls (.int k :: .int n :: t.map (mCv G))) rfl (by rw [hcb]; exact hd) rfl hn0 hk0 (by show mIx n * 4 ≤ _; omega) (by show mIx k * 4 ≤ _; omega) (by show mIx k ≤ _; omega) rfl rfl (by show hN h - n0 + (1 + mIx n) ≤ R.cells; omega) (by show hW h - w0 + (mIx n + mIx n * mIx k) ≤ R.slots; omega)
  have eA : cA = G.2.2.2.2 (.array .int) := Option.some.inj (fA.symm.trans (hK.2 4 _ rfl).2)
  have eC : comp = G.2.2.2.2 .int := by
    rw [mw_str2] at fC
    exact Option.some.inj (fC.symm.trans (hK.2 0 _ rfl).2)
  subst eA
  subst eC
  generalize hF : Jvm.Free.Multi.fill (T.setVm vm₁) (G.2.2.2.2 (.array .int)) (G.2.2.2.2 .int) n.toNatClampNeg k.toNatClampNeg (defaultValue .int) n.toNatClampNeg = F at X' step
  have hTh : (T.setVm vm₁).heap = H := hT
  obtain ⟨f1, f2, -, -⟩ := Jvm.Free.Multi.fill_facts (T.setVm vm₁) (G.2.2.2.2 (.array .int)) (G.2.2.2.2 .int) n.toNatClampNeg k.toNatClampNeg (defaultValue .int) n.toNatClampNeg
  rw [hF, hTh] at f1 f2
  have hold : ∀ x : Nat, x < H.size → F.heap[x]? = H[x]? := fun x hx => by
    have := Jvm.Free.Multi.fill_old (T.setVm vm₁) (G.2.2.2.2 (.array .int)) (G.2.2.2.2 .int) n.toNatClampNeg k.toNatClampNeg (defaultValue .int) (a := x) (by rw [hTh]; exact hx) n.toNatClampNeg
    rw [hF, hTh] at this
    exact this
  have hrow : ∀ j : Nat, j < mIx n → F.heap[H.size + 1 + j]? = some (arrV (G.2.2.2.2 .int) (mIx k) (fun _ => .int 0)) := fun j hj => by
    have := Jvm.Free.Multi.fill_inner (T.setVm vm₁) (G.2.2.2.2 (.array .int)) (G.2.2.2.2 .int) n.toNatClampNeg k.toNatClampNeg (defaultValue .int) n.toNatClampNeg j hj
    rw [hF, hTh] at this
    rw [this]
    show some ({ cls := _, slots := Array.replicate _ _, vm := .none } : Cell) = _
    rw [arrV_new]
    rfl
  rw [mr_outer] at f2
  have hP1 : va_P G.2.2.2.1 vwCl (mWs G (newM h (mIx n) (mIx k))) F.heap := by
    intro j q hj
    have hjl : j < hN h + 1 + mIx n := by
      have := (List.getElem?_eq_some_iff.mp hj).1
      rw [mWs_len] at this
      exact this
    rw [mWs_get (h := newM h (mIx n) (mIx k)) hjl] at hj
    cases hj
    by_cases c1 : j < hN h
    · have e1 : mEl G (newM h (mIx n) (mIx k)) j = mEl G h j := mEl_eq (if_neg (by omega)) (if_neg (by omega)) (if_neg (by omega)) (if_neg (by omega))
      rw [e1]
      exact (hw.1 j _ (mWs_get c1)).kept (hold _ (by show G.1 + j < H.size; omega))
    · by_cases c2 : j = hN h
      · subst c2
        have e1 : hS (newM h (mIx n) (mIx k)) (hN h) = .inr (.array .int, mIx n) := (if_pos (Nat.le_refl _)).trans (if_pos rfl)
        have e2 : hR (newM h (mIx n) (mIx k)) (hN h) = fun j => if j < mIx n then hN h + 1 + j else NUL := (if_pos (Nat.le_refl _)).trans (if_pos rfl)
        rw [mEl_A e1]
        show F.heap[G.1 + hN h]? = some (arrV (G.2.2.2.2 (.array .int)) (mIx n) (fun j => va_rf (mRo G (hR (newM h (mIx n) (mIx k)) (hN h) j))))
        rw [← hsz2, f2, e2]
        refine congrArg (fun z => some (arrV _ _ z)) (funext fun j => ?_)
        show va_rf (if j < mIx n then some (H.size + 1 + j) else none) = va_rf (mRo G (if j < mIx n then hN h + 1 + j else NUL))
        by_cases c3 : j < mIx n
        · rw [if_pos c3, if_pos c3]
          unfold mRo mAd NUL
          rw [if_neg (by omega), if_pos (by omega)]
          rw [show H.size + 1 + j = G.1 + (hN h + 1 + j) by omega]
        · rw [if_neg c3, if_neg c3, mRo_NUL]
          rfl
      · have e1 : hS (newM h (mIx n) (mIx k)) j = .inr (.int, mIx k) := (if_pos (by omega)).trans (if_neg c2)
        have e2 : hI (newM h (mIx n) (mIx k)) j = fun _ => 0 := if_pos (by omega)
        rw [mEl_A e1]
        show F.heap[G.1 + j]? = some (arrV (G.2.2.2.2 .int) (mIx k) (fun a => .int (hI (newM h (mIx n) (mIx k)) j a)))
        rw [e2, show G.1 + j = H.size + 1 + (j - hN h - 1) by omega, hrow _ (by omega)]
  have k1 := kk F.heap locs ls ⟨hP1, by show hN h + 1 + mIx n ≤ 900000; omega⟩ ⟨by rw [f1]; have := hQ.1; omega, fun x h3 h4 => (hold x (by have := hQ.1; omega)).trans (hQ.2.1 x h3 h4), hQ.2.2⟩ hv (by show n0 ≤ hN h + 1 + mIx n; omega) (by show w0 ≤ hW h + mIx n + mIx n * mIx k; omega)
  have k2 : W p l e R s m args below meth c F.heap locs (hN h + 1 + mIx n - n0) (hW h + mIx n + mIx n * mIx k - w0) Q (F0 m (pc + 4) ls (mCv G (.ref (hN h)) :: t.map (mCv G))) := k1
  rw [mCv_ref (by omega), show hN h + 1 + mIx n - n0 = hN h - n0 + 1 + mIx n by omega, show hW h + mIx n + mIx n * mIx k - w0 = hW h - w0 + mIx n + mIx n * mIx k by omega] at k2
  obtain ⟨tt, a1, b1⟩ := k2 F rfl X'
  refine ⟨tt, step tt ?_, b1⟩
  rw [show T.heap.size = G.1 + hN h by rw [hT]; exact hsz2]
  exact a1
end SM
end
section
/-! ANY ROW; A STRETCH OF ROWS. -/
set_option maxRecDepth 100000 in
theorem mw_obj : Cond.instanceMethod objectInit ∈ mTb ∧ Cond.code objectInit ⟨#[0xb1]⟩ 1 none ∈ mTb := by decide +kernel
section SD
variable {p : Program} {l : Launch} {e : Env} {R : Room} {s : State} {m : MethodId} {args : Array Value} {below : List Frame} {meth : Method} {c : Code} {Q : State → Prop} {cc : ByteArray} {own : String} {G : mG} {nL n0 w0 nM wM : Nat} {fin : Bool}
set_option maxHeartbeats 4000000 in
theorem mst_ok (C : mCx p R s m args meth c G cc own nL fin nM wM n0 w0) {q : mI} (hd : decode cc q.1 = .ok (q.2.1, q.2.2.1)) (hlen : mLok q = true) (hsta : mSta nL fin q = true) (he : mEnt own q) {f : mC} (hpc : f.2.1 = q.1) (hok : (mst nL fin nM wM q f).1 = true)
    (k : mW p l e R s m args below meth c G nL n0 w0 Q (mst nL fin nM wM q f)) : mW p l e R s m args below meth c G nL n0 w0 Q f := by
  obtain ⟨pc, ins, len, a, b⟩ := q
  obtain ⟨ok, pc0, L, st, h⟩ := f
  simp only at hpc hd
  subst hpc
  have hx := C.1
  have hb := C.2.1
  have hown := C.2.2.2.1
  have hts := C.2.2.2.2.1
  cases ins
  case iconst n =>
    obtain rfl : len = 1 := by simpa [mLok, mIl] using hlen
    intro H locs ls hw hQ hv h0 h1
    exact lv_iconst hx hb hd rfl (k H locs ls hw hQ hv h0 h1)
  case bipush n =>
    obtain rfl : len = 2 := by simpa [mLok, mIl] using hlen
    intro H locs ls hw hQ hv h0 h1
    exact lv_bipush hx hb hd rfl (k H locs ls hw hQ hv h0 h1)
  case sipush n =>
    obtain rfl : len = 3 := by simpa [mLok, mIl] using hlen
    intro H locs ls hw hQ hv h0 h1
    exact lv_sipush hx hb hd rfl (k H locs ls hw hQ hv h0 h1)
  case lconst n =>
    obtain rfl : len = 1 := by simpa [mLok, mIl] using hlen
    intro H locs ls hw hQ hv h0 h1
    exact lv_lconst hx hb hd rfl (k H locs ls hw hQ hv h0 h1)
  case ldc i =>
    obtain rfl : len = 2 := by simpa [mLok, mIl] using hlen
    by_cases hb0 : b = 0
    · subst hb0
      intro H locs ls hw hQ hv h0 h1
      exact lv_ldc hx hb hown (hts _ he) hd (k H locs ls hw hQ hv h0 h1)
    · have he2 : own = RX4 ∧ ∃ tx, mSt[a]? = some (i, tx) := by
        have he3 : (if b = 0 then Cond.constant own i (Int32.ofNat a) ∈ mTb else own = RX4 ∧ ∃ tx, mSt[a]? = some (i, tx)) := he
        rw [if_neg hb0] at he3
        exact he3
      obtain ⟨ho, tx, hst⟩ := he2
      have ek : mst nL fin nM wM (pc0, .ldc i, 2, a, b) (ok, pc0, L, st, h) = (ok, pc0 + 2, L, .ref (900000 + a) :: st, h) := if_neg hb0
      rw [ek] at k
      intro H locs ls hw hQ hv h0 h1
      have hal : a < 15 := (List.getElem?_eq_some_iff.mp hst).1
      have k1 := k H locs ls hw hQ hv h0 h1
      have k2 : W p l e R s m args below meth c H locs (hN h - n0) (hW h - w0) Q (F0 m (pc0 + 2) ls (mCv G (.ref (900000 + a)) :: st.map (mCv G))) := k1
      have ec : mCv G (.ref (900000 + a)) = .ref (G.2.1 a) := by
        show va_rf (mRo G (900000 + a)) = _
        unfold mRo mAd NUL
        rw [if_neg (by omega), if_neg (by omega), Nat.add_sub_cancel_left]
        rfl
      rw [ec] at k2
      have hR4 := C.2.2.2.2.2.2.2.1.1 a _ hst
      rw [← ho] at hR4
      exact va_ldcS hx hb hown hR4 hd k2
  case ldc_w i =>
    obtain rfl : len = 3 := by simpa [mLok, mIl] using hlen
    intro H locs ls hw hQ hv h0 h1
    exact lv_ldcw hx hb hown (hts _ he) hd (k H locs ls hw hQ hv h0 h1)
  case ldc2_w i =>
    obtain rfl : len = 3 := by simpa [mLok, mIl] using hlen
    intro H locs ls hw hQ hv h0 h1
    exact lv_ldc2 hx hb hown (hts _ he) hd (k H locs ls hw hQ hv h0 h1)
  case iload i =>
    obtain rfl : len = 2 := by simpa [mLok, mIl] using hlen
    exact so_ld hok k (fun _ x H locs cells slots ls rest hl kk => lv_iload hx hb hd hl kk) (fun z => by cases z) (fun z => by cases z)
  case iload_n i =>
    obtain rfl : len = 1 := by simpa [mLok, mIl] using hlen
    exact so_ld hok k (fun _ x H locs cells slots ls rest hl kk => lv_iload_n hx hb hd rfl hl kk) (fun z => by cases z) (fun z => by cases z)
  case aload i =>
    obtain rfl : len = 2 := by simpa [mLok, mIl] using hlen
    exact so_ld hok k (fun z => by cases z) (fun _ x H locs cells slots ls rest hl kk => so_aload hx hb hd hl kk) (fun z => by cases z)
  case aload_n i =>
    obtain rfl : len = 1 := by simpa [mLok, mIl] using hlen
    exact so_ld hok k (fun z => by cases z) (fun _ x H locs cells slots ls rest hl kk => so_aload_n hx hb hd hl kk) (fun z => by cases z)
  case lload i =>
    obtain rfl : len = 2 := by simpa [mLok, mIl] using hlen
    exact so_ld hok k (fun z => by cases z) (fun z => by cases z) (fun _ x H locs cells slots ls rest hl kk => lv_lload hx hb hd hl kk)
  case lload_n i =>
    obtain rfl : len = 1 := by simpa [mLok, mIl] using hlen
    exact so_ld hok k (fun z => by cases z) (fun z => by cases z) (fun _ x H locs cells slots ls rest hl kk => lv_lload_n hx hb hd rfl hl kk)
  case istore i =>
    obtain rfl : len = 2 := by simpa [mLok, mIl] using hlen
    exact so_sto (of_decide_eq_true hsta) (fun z => by cases z) hok k (fun _ hn x H locs cells slots ls rest lv hl kk => lv_istore hx hb hd hl hn rfl kk) (fun z => by cases z) (fun z => by cases z)
  case istore_n i =>
    obtain rfl : len = 1 := by simpa [mLok, mIl] using hlen
    exact so_sto (of_decide_eq_true hsta) (fun z => by cases z) hok k (fun _ hn x H locs cells slots ls rest lv hl kk => lv_istore_n hx hb hd rfl hl hn rfl kk) (fun z => by cases z) (fun z => by cases z)
  case astore i =>
    obtain rfl : len = 2 := by simpa [mLok, mIl] using hlen
    exact so_sto (of_decide_eq_true hsta) (fun z => by cases z) hok k (fun z => by cases z) (fun _ hn x H locs cells slots ls rest lv hl kk => so_astore hx hb hd hn hl kk) (fun z => by cases z)
  case astore_n i =>
    obtain rfl : len = 1 := by simpa [mLok, mIl] using hlen
    exact so_sto (of_decide_eq_true hsta) (fun z => by cases z) hok k (fun z => by cases z) (fun _ hn x H locs cells slots ls rest lv hl kk => so_astore_n hx hb hd hn hl kk) (fun z => by cases z)
  case lstore i =>
    obtain rfl : len = 2 := by simpa [mLok, mIl] using hlen
    exact so_sto (Nat.lt_of_succ_lt (of_decide_eq_true hsta)) (fun _ => of_decide_eq_true hsta) hok k (fun z => by cases z) (fun z => by cases z) (fun _ hn x H locs cells slots ls rest lv hl kk => lv_lstore hx hb hd hl hn rfl kk)
  case lstore_n i =>
    obtain rfl : len = 1 := by simpa [mLok, mIl] using hlen
    exact so_sto (Nat.lt_of_succ_lt (of_decide_eq_true hsta)) (fun _ => of_decide_eq_true hsta) hok k (fun z => by cases z) (fun z => by cases z) (fun _ hn x H locs cells slots ls rest lv hl kk => lv_lstore_n hx hb hd rfl hl hn rfl kk)
  case iinc i n =>
    obtain rfl : len = 3 := by simpa [mLok, mIl] using hlen
    have hok2 : (match L.getD i (.retAddr 0) with
      | .int x => ((ok, pc0 + 3, (mFix L i).set i (.int (x + Int32.ofInt n)), st, h) : mC)
      | _ => mBad h).1 = true := hok
    have k2 : mW p l e R s m args below meth c G nL n0 w0 Q (match L.getD i (.retAddr 0) with
      | .int x => ((ok, pc0 + 3, (mFix L i).set i (.int (x + Int32.ofInt n)), st, h) : mC)
      | _ => mBad h) := k
    split at hok2
    · rename_i x ex
      rw [ex] at k2
      intro H locs ls hw hQ hv h0 h1
      have hil : i < L.length := by
        rcases Nat.lt_or_ge i L.length with z | z
        · exact z
        · rw [show L.getD i (.retAddr 0) = .retAddr 0 by simp [List.getD, List.getElem?_eq_none z]] at ex
          cases ex
      have hmem : (i, Value.int x) ∈ mLv G L := mLv_mem.mpr ⟨.int x, hil, ex, (fun n z => by cases z), rfl⟩
      obtain ⟨kx, hkx⟩ := List.getElem?_of_mem hmem
      exact lv_iinc hx hb hd hv hkx rfl (of_decide_eq_true hsta) rfl (fun ls' hl' => k2 H locs ls' hw hQ (mLv_set (v := .int (x + Int32.ofInt n)) hl') h0 h1)
    · cases hok2
  case dup =>
    obtain rfl : len = 1 := by simpa [mLok, mIl] using hlen
    have hok2 : (c_dup nL fin nM wM pc0 a b ok L st h).1 = true := hok
    have k2 : mW p l e R s m args below meth c G nL n0 w0 Q (c_dup nL fin nM wM pc0 a b ok L st h) := k
    unfold c_dup at hok2 k2
    split at hok2
    · intro H locs ls hw hQ hv h0 h1
      exact lv_dup hx hb hd (by rw [mCv_cat]; rfl) (k2 H locs ls hw hQ hv h0 h1)
    · intro H locs ls hw hQ hv h0 h1
      exact lv_dup hx hb hd (by rw [mCv_cat]; rfl) (k2 H locs ls hw hQ hv h0 h1)
    · cases hok2
  case pop =>
    obtain rfl : len = 1 := by simpa [mLok, mIl] using hlen
    have hok2 : (c_pop nL fin nM wM pc0 a b ok L st h).1 = true := hok
    have k2 : mW p l e R s m args below meth c G nL n0 w0 Q (c_pop nL fin nM wM pc0 a b ok L st h) := k
    unfold c_pop at hok2 k2
    split at hok2
    · intro H locs ls hw hQ hv h0 h1
      exact lv_pop hx hb hd (by rw [mCv_cat]; rfl) (k2 H locs ls hw hQ hv h0 h1)
    · intro H locs ls hw hQ hv h0 h1
      exact lv_pop hx hb hd (by rw [mCv_cat]; rfl) (k2 H locs ls hw hQ hv h0 h1)
    · cases hok2
  case dup2 =>
    obtain rfl : len = 1 := by simpa [mLok, mIl] using hlen
    have hok2 : (c_dup2 nL fin nM wM pc0 a b ok L st h).1 = true := hok
    have k2 : mW p l e R s m args below meth c G nL n0 w0 Q (c_dup2 nL fin nM wM pc0 a b ok L st h) := k
    unfold c_dup2 at hok2 k2
    split at hok2
    · intro H locs ls hw hQ hv h0 h1
      exact lv_dup2_11 hx hb hd (by rw [mCv_cat]; rfl) (by rw [mCv_cat]; rfl) (k2 H locs ls hw hQ hv h0 h1)
    · cases hok2
  case idiv =>
    obtain rfl : len = 1 := by simpa [mLok, mIl] using hlen
    obtain ⟨y, x, r, rfl⟩ := mU2_ok (st := st) hok rfl
    have hok2 : (decide (¬ y = 0) && ok) = true := hok
    simp only [Bool.and_eq_true, decide_eq_true_eq] at hok2
    intro H locs ls hw hQ hv h0 h1
    exact lv_idiv hx hb hd hok2.1 (k H locs ls hw hQ hv h0 h1)
  case irem =>
    obtain rfl : len = 1 := by simpa [mLok, mIl] using hlen
    obtain ⟨y, x, r, rfl⟩ := mU2_ok (st := st) hok rfl
    have hok2 : (decide (¬ y = 0) && ok) = true := hok
    simp only [Bool.and_eq_true, decide_eq_true_eq] at hok2
    intro H locs ls hw hQ hv h0 h1
    exact lv_irem hx hb hd hok2.1 (k H locs ls hw hQ hv h0 h1)
  case iadd =>
    obtain rfl : len = 1 := by simpa [mLok, mIl] using hlen
    obtain ⟨y, x, r, rfl⟩ := mU2_ok (st := st) hok rfl
    intro H locs ls hw hQ hv h0 h1
    exact lv_iadd hx hb hd (k H locs ls hw hQ hv h0 h1)
  case isub =>
    obtain rfl : len = 1 := by simpa [mLok, mIl] using hlen
    obtain ⟨y, x, r, rfl⟩ := mU2_ok (st := st) hok rfl
    intro H locs ls hw hQ hv h0 h1
    exact lv_isub hx hb hd (k H locs ls hw hQ hv h0 h1)
  case imul =>
    obtain rfl : len = 1 := by simpa [mLok, mIl] using hlen
    obtain ⟨y, x, r, rfl⟩ := mU2_ok (st := st) hok rfl
    intro H locs ls hw hQ hv h0 h1
    exact lv_imul hx hb hd (k H locs ls hw hQ hv h0 h1)
  case iand =>
    obtain rfl : len = 1 := by simpa [mLok, mIl] using hlen
    obtain ⟨y, x, r, rfl⟩ := mU2_ok (st := st) hok rfl
    intro H locs ls hw hQ hv h0 h1
    exact lv_iand hx hb hd (k H locs ls hw hQ hv h0 h1)
  case ior =>
    obtain rfl : len = 1 := by simpa [mLok, mIl] using hlen
    obtain ⟨y, x, r, rfl⟩ := mU2_ok (st := st) hok rfl
    intro H locs ls hw hQ hv h0 h1
    exact lv_ior hx hb hd (k H locs ls hw hQ hv h0 h1)
  case ixor =>
    obtain rfl : len = 1 := by simpa [mLok, mIl] using hlen
    obtain ⟨y, x, r, rfl⟩ := mU2_ok (st := st) hok rfl
    intro H locs ls hw hQ hv h0 h1
    exact lv_ixor hx hb hd (k H locs ls hw hQ hv h0 h1)
  case ishl =>
    obtain rfl : len = 1 := by simpa [mLok, mIl] using hlen
    obtain ⟨y, x, r, rfl⟩ := mU2_ok (st := st) hok rfl
    intro H locs ls hw hQ hv h0 h1
    exact lv_ishl hx hb hd (k H locs ls hw hQ hv h0 h1)
  case ishr =>
    obtain rfl : len = 1 := by simpa [mLok, mIl] using hlen
    obtain ⟨y, x, r, rfl⟩ := mU2_ok (st := st) hok rfl
    intro H locs ls hw hQ hv h0 h1
    exact lv_ishr hx hb hd (k H locs ls hw hQ hv h0 h1)
  case ladd =>
    obtain rfl : len = 1 := by simpa [mLok, mIl] using hlen
    obtain ⟨y, x, r, rfl⟩ := mUll_ok (st := st) hok rfl
    intro H locs ls hw hQ hv h0 h1
    exact lv_ladd hx hb hd (k H locs ls hw hQ hv h0 h1)
  case lmul =>
    obtain rfl : len = 1 := by simpa [mLok, mIl] using hlen
    obtain ⟨y, x, r, rfl⟩ := mUll_ok (st := st) hok rfl
    intro H locs ls hw hQ hv h0 h1
    exact lv_lmul hx hb hd (k H locs ls hw hQ hv h0 h1)
  case lor =>
    obtain rfl : len = 1 := by simpa [mLok, mIl] using hlen
    obtain ⟨y, x, r, rfl⟩ := mUll_ok (st := st) hok rfl
    intro H locs ls hw hQ hv h0 h1
    exact lv_lor hx hb hd (k H locs ls hw hQ hv h0 h1)
  case lcmp =>
    obtain rfl : len = 1 := by simpa [mLok, mIl] using hlen
    obtain ⟨y, x, r, rfl⟩ := mUll_ok (st := st) hok rfl
    intro H locs ls hw hQ hv h0 h1
    exact W.lcmp hx hb hd (k H locs ls hw hQ hv h0 h1)
  case i2l =>
    obtain rfl : len = 1 := by simpa [mLok, mIl] using hlen
    obtain ⟨x, r, rfl⟩ := mU1_ok (st := st) hok rfl
    intro H locs ls hw hQ hv h0 h1
    exact lv_i2l hx hb hd rfl (k H locs ls hw hQ hv h0 h1)
  case i2b =>
    obtain rfl : len = 1 := by simpa [mLok, mIl] using hlen
    obtain ⟨x, r, rfl⟩ := mU1_ok (st := st) hok rfl
    intro H locs ls hw hQ hv h0 h1
    exact lv_i2b hx hb hd rfl (k H locs ls hw hQ hv h0 h1)
  case i2c =>
    obtain rfl : len = 1 := by simpa [mLok, mIl] using hlen
    obtain ⟨x, r, rfl⟩ := mU1_ok (st := st) hok rfl
    intro H locs ls hw hQ hv h0 h1
    exact lv_i2c hx hb hd rfl (k H locs ls hw hQ hv h0 h1)
  case iushr =>
    obtain rfl : len = 1 := by simpa [mLok, mIl] using hlen
    obtain ⟨y, x, r, rfl⟩ := mU2_ok (st := st) hok rfl
    intro H locs ls hw hQ hv h0 h1
    exact lv_iushr hx hb hd rfl (k H locs ls hw hQ hv h0 h1)
  case lshl =>
    obtain rfl : len = 1 := by simpa [mLok, mIl] using hlen
    obtain ⟨y, r, rfl⟩ := mU1_ok (st := st) hok rfl
    obtain ⟨x, r, rfl⟩ := mUl_ok (st := r) (bad := mBad h) hok rfl
    intro H locs ls hw hQ hv h0 h1
    exact lv_lshl hx hb hd rfl (k H locs ls hw hQ hv h0 h1)
  case goto off =>
    obtain rfl : len = 3 := by simpa [mLok, mIl] using hlen
    intro H locs ls hw hQ hv h0 h1
    exact lv_goto hx hb hd (mTk_ok hsta) (k H locs ls hw hQ hv h0 h1)
  case if_icmp cnd off =>
    obtain rfl : len = 3 := by simpa [mLok, mIl] using hlen
    obtain ⟨y, x, r, rfl⟩ := mU2_ok (st := st) hok rfl
    intro H locs ls hw hQ hv h0 h1
    exact so_icmp hx hb hd (mTk_ok hsta) (k H locs ls hw hQ hv h0 h1)
  case ifCond cnd off =>
    obtain rfl : len = 3 := by simpa [mLok, mIl] using hlen
    obtain ⟨x, r, rfl⟩ := mU1_ok (st := st) hok rfl
    intro H locs ls hw hQ hv h0 h1
    exact so_icnd hx hb hd (mTk_ok hsta) (k H locs ls hw hQ hv h0 h1)
  case tableswitch d lo hi os =>
    obtain ⟨x, r, rfl⟩ := mU1_ok (st := st) hok rfl
    have hok2 : ((d :: os.toList).all (fun o => mTk pc0 o) && (decide (hi - lo + 1 = (os.toList.length : Int)) && decide (-2147483648 ≤ lo ∧ hi ≤ 2147483647))) = true := hsta
    simp only [Bool.and_eq_true, decide_eq_true_eq] at hok2
    obtain ⟨g1, g2, g3⟩ := hok2
    rw [List.all_eq_true] at g1
    intro H locs ls hw hQ hv h0 h1
    have k1 := k H locs ls hw hQ hv h0 h1
    have k2 : W p l e R s m args below meth c H locs (hN h - n0) (hW h - w0) Q (F0 m (mTab pc0 os.toList lo d x) ls (r.map (mCv G))) := k1
    by_cases hin : x.toInt < lo ∨ hi < x.toInt
    · rw [mTab_out os.toList lo g3.1 (by omega) (by omega)] at k2
      exact lv_tableOut hx hb hd hin (mTk_ok (g1 d List.mem_cons_self)) k2
    · obtain ⟨o, q1, q2⟩ := mTab_in (pc := pc0) (d := d) (x := x) os.toList lo g3.1 (by omega) (by omega) (by omega)
      rw [q2] at k2
      exact lv_tableIn hx hb hd (by omega) (by omega) (by rw [← Array.getElem?_toList]; exact q1) (mTk_ok (g1 o (List.mem_cons_of_mem _ (List.mem_of_getElem? q1)))) k2
  case lookupswitch d ps =>
    obtain ⟨x, r, rfl⟩ := mU1_ok (st := st) hok rfl
    have hok2 : ((d :: ps.toList.map (fun q => q.2)).all (fun o => mTk pc0 o) && (ps.toList.zip (ps.toList.drop 1)).all (fun (a, next) => a.1 < next.1)) = true := hsta
    rw [Bool.and_eq_true, List.all_eq_true] at hok2
    intro H locs ls hw hQ hv h0 h1
    obtain ⟨g1, g2⟩ := mLkp_eq (pc := pc0) (d := d) (x := x) ps.toList
    have k1 := k H locs ls hw hQ hv h0 h1
    have k2 : W p l e R s m args below meth c H locs (hN h - n0) (hW h - w0) Q (F0 m (mLkp pc0 ps.toList d x) ls (r.map (mCv G))) := k1
    rw [g1] at k2
    refine lv_lookup hx hb hd hok2.2 rfl (mTk_ok (hok2.1 _ ?_)) k2
    rcases g2 with g2 | g2
    · rw [g2]; exact List.mem_cons_self
    · exact List.mem_cons_of_mem _ g2
  case getfield i =>
    obtain rfl : len = 3 := by simpa [mLok, mIl] using hlen
    obtain ⟨r, t, rfl⟩ := mUr_ok (st := st) hok rfl
    have hok2 : (chO h r a && ok) = true := hok
    rw [Bool.and_eq_true] at hok2
    obtain ⟨g1, g2⟩ := chO_ok hok2.1
    exact so_get C hd he g1 g2 (of_decide_eq_true hsta) k
  case putfield i =>
    obtain rfl : len = 3 := by simpa [mLok, mIl] using hlen
    obtain ⟨v, r, t, rfl⟩ := mUvr_ok (st := st) hok rfl
    have hsta2 : (decide (b < mNf a) && (!(mFin a b) || fin)) = true := hsta
    rw [Bool.and_eq_true] at hsta2
    have hbn := of_decide_eq_true hsta2.1
    have hok2 : (mPutB (mTy a b) v ok pc0 L t h r a b).1 = true := hok
    have k2 : mW p l e R s m args below meth c G nL n0 w0 Q (mPutB (mTy a b) v ok pc0 L t h r a b) := k
    unfold mPutB at hok2 k2
    split at hok2
    · rename_i x ht
      rw [ht] at k2
      rw [Bool.and_eq_true] at hok2
      obtain ⟨g1, g2⟩ := chO_ok hok2.1
      exact so_put C hd he g1 g2 hbn hsta2.2 (mPF_I ht (Or.inl rfl) g2 rfl) k2
    · rename_i x ht
      rw [ht] at k2
      rw [Bool.and_eq_true, Bool.and_eq_true] at hok2
      obtain ⟨g1, g2⟩ := chO_ok hok2.2.1
      exact so_put C hd he g1 g2 hbn hsta2.2 (mPF_I ht (Or.inr (Or.inl rfl)) g2 hok2.1) k2
    · rename_i x ht
      rw [ht] at k2
      rw [Bool.and_eq_true, Bool.and_eq_true] at hok2
      obtain ⟨g1, g2⟩ := chO_ok hok2.2.1
      exact so_put C hd he g1 g2 hbn hsta2.2 (mPF_I ht (Or.inr (Or.inr rfl)) g2 hok2.1) k2
    · rename_i x ht
      rw [ht] at k2
      rw [Bool.and_eq_true] at hok2
      obtain ⟨g1, g2⟩ := chO_ok hok2.1
      exact so_put C hd he g1 g2 hbn hsta2.2 (mPF_J ht g2) k2
    · rename_i n x ht
      rw [ht] at k2
      rw [Bool.and_eq_true] at hok2
      obtain ⟨g1, g2⟩ := chO_ok hok2.1
      exact so_put C hd he g1 g2 hbn hsta2.2 (mPF_R (Or.inl ⟨_, ht⟩) g2) k2
    · rename_i n x ht
      rw [ht] at k2
      rw [Bool.and_eq_true] at hok2
      obtain ⟨g1, g2⟩ := chO_ok hok2.1
      exact so_put C hd he g1 g2 hbn hsta2.2 (mPF_R (Or.inr ⟨_, ht⟩) g2) k2
    · cases hok2
  case iaload =>
    obtain rfl : len = 1 := by simpa [mLok, mIl] using hlen
    obtain ⟨i, r, t, rfl⟩ := mUir_ok (st := st) hok rfl
    have hok2 : (chI h r i && ok) = true := hok
    rw [Bool.and_eq_true] at hok2
    obtain ⟨g1, n, g2, g3⟩ := chI_ok hok2.1
    exact so_iald C hd g1 g2 g3 k
  case baload =>
    obtain rfl : len = 1 := by simpa [mLok, mIl] using hlen
    obtain ⟨i, r, t, rfl⟩ := mUir_ok (st := st) hok rfl
    have hok2 : (chB h r i && ok) = true := hok
    rw [Bool.and_eq_true] at hok2
    obtain ⟨g1, n, g2, g3⟩ := chB_ok hok2.1
    exact so_bald C hd g1 g2 g3 k
  case laload =>
    obtain rfl : len = 1 := by simpa [mLok, mIl] using hlen
    obtain ⟨i, r, t, rfl⟩ := mUir_ok (st := st) hok rfl
    have hok2 : (chJ h r i && ok) = true := hok
    rw [Bool.and_eq_true] at hok2
    obtain ⟨g1, n, g2, g3⟩ := chJ_ok hok2.1
    exact so_lald C hd g1 g2 g3 k
  case aaload =>
    obtain rfl : len = 1 := by simpa [mLok, mIl] using hlen
    obtain ⟨i, r, t, rfl⟩ := mUir_ok (st := st) hok rfl
    have hok2 : (chR h r i && ok) = true := hok
    rw [Bool.and_eq_true] at hok2
    obtain ⟨g1, n, g2, g3⟩ := chR_ok hok2.1
    exact so_aald C hd g1 g2 g3 k
  case iastore =>
    obtain rfl : len = 1 := by simpa [mLok, mIl] using hlen
    obtain ⟨v, i, r, t, rfl⟩ := mUxir_ok (st := st) hok rfl
    cases v with
    | int x =>
      have hok2 : (chI h r i && ok) = true := hok
      rw [Bool.and_eq_true] at hok2
      obtain ⟨g1, n, g2, g3⟩ := chI_ok hok2.1
      exact so_iast C hd g1 g2 g3 k
    | _ => cases hok
  case bastore =>
    obtain rfl : len = 1 := by simpa [mLok, mIl] using hlen
    obtain ⟨v, i, r, t, rfl⟩ := mUxir_ok (st := st) hok rfl
    cases v with
    | int x =>
      have hok2 : (chB h r i && ok) = true := hok
      rw [Bool.and_eq_true] at hok2
      obtain ⟨g1, n, g2, g3⟩ := chB_ok hok2.1
      exact so_bast C hd g1 g2 g3 k
    | _ => cases hok
  case lastore =>
    obtain rfl : len = 1 := by simpa [mLok, mIl] using hlen
    obtain ⟨v, i, r, t, rfl⟩ := mUxir_ok (st := st) hok rfl
    cases v with
    | long x =>
      have hok2 : (chJ h r i && ok) = true := hok
      rw [Bool.and_eq_true] at hok2
      obtain ⟨g1, n, g2, g3⟩ := chJ_ok hok2.1
      exact so_last C hd g1 g2 g3 k
    | _ => cases hok
  case arraylength =>
    obtain rfl : len = 1 := by simpa [mLok, mIl] using hlen
    obtain ⟨r, t, rfl⟩ := mUr_ok (st := st) hok rfl
    have hok2 : (chL h r && ok) = true := hok
    rw [Bool.and_eq_true] at hok2
    obtain ⟨g1, g2⟩ := chL_ok hok2.1
    exact so_alen C hd g1 g2 k
  case invokestatic i =>
    obtain rfl : len = 3 := by simpa [mLok, mIl] using hlen
    have hok2 : (c_invokestatic nL fin nM wM pc0 a b ok L st h).1 = true := hok
    have k2 : mW p l e R s m args below meth c G nL n0 w0 Q (c_invokestatic nL fin nM wM pc0 a b ok L st h) := k
    unfold c_invokestatic at hok2 k2
    cases hb7 : Nat.beq b 7777
    · rw [hb7] at hok2
      cases hok2
    · rw [hb7] at hok2 k2
      simp only [cond_true] at hok2 k2
      split at hok2
      · rw [Bool.and_eq_true] at hok2
        exact so_copy C hd (he (Nat.eq_of_beq_eq_true hb7)) hok2.1 k2
      · cases hok2
  case invokespecial i =>
    obtain rfl : len = 3 := by simpa [mLok, mIl] using hlen
    have hok2 : (c_invokespecial nL fin nM wM pc0 a b ok L st h).1 = true := hok
    have k2 : mW p l e R s m args below meth c G nL n0 w0 Q (c_invokespecial nL fin nM wM pc0 a b ok L st h) := k
    unfold c_invokespecial at hok2 k2
    cases hb8 : Nat.beq b 8888
    · rw [hb8] at hok2
      cases hok2
    · rw [hb8] at hok2 k2
      simp only [cond_true] at hok2 k2
      split at hok2
      · rename_i r
        rw [Bool.and_eq_true] at hok2
        intro H locs ls hw hQ hv h0 h1
        show W p l e R s m args below meth c H locs _ _ Q (F0 m pc0 ls (mCv G (.ref r) :: []))
        rw [mCv_ref (Nat.lt_of_lt_of_le (Nat.blt_eq.mp hok2.1) hw.2)]
        exact W.objInit hx hb hown (hts _ (he (Nat.eq_of_beq_eq_true hb8))) (hts _ mw_obj.1) (hts _ mw_obj.2) rfl (by rw [C.2.2.1]; exact hv.1) rfl hd C.2.2.2.2.2.2.2.2.2.1.1 (by show 2 * 0 + 0 + 12 ≤ R.locals; have := C.2.2.2.2.2.2.2.2.2.1.2; omega) (k2 H locs ls hw hQ hv h0 h1)
      · cases hok2
  case newarray ty =>
    obtain rfl : len = 2 := by simpa [mLok, mIl] using hlen
    obtain ⟨n, r, rfl⟩ := mU1_ok (st := st) hok rfl
    have hok2 : (!(decide (n < 0)) && (decide (mIx n ≤ 60000000) && (decide (hN h + 1 ≤ nM) && (decide (hW h + mIx n ≤ wM) && ok)))) = true := hok
    simp only [Bool.and_eq_true, Bool.not_eq_true', decide_eq_true_eq, decide_eq_false_iff_not] at hok2
    exact so_newa C hd he.1 he.2 hok2.1 hok2.2.1 hok2.2.2.1 hok2.2.2.2.1 k
  case new i =>
    obtain rfl : len = 3 := by simpa [mLok, mIl] using hlen
    have hok2 : (decide (hN h + 1 ≤ nM) && (decide (hW h + mNf a ≤ wM) && ok)) = true := hok
    simp only [Bool.and_eq_true, decide_eq_true_eq] at hok2
    exact so_new C hd he hok2.1 hok2.2.1 k
  case multianewarray i d =>
    obtain rfl : len = 4 := by simpa [mLok, mIl] using hlen
    obtain ⟨kk, n, r, rfl⟩ := mU2_ok (st := st) hok rfl
    have hok2 : (decide (d = 2) && (!(decide (n < 0)) && (!(decide (kk < 0)) && (decide (mIx n ≤ 60000000) && (decide (mIx kk ≤ 60000000) && (decide (hN h + 1 + mIx n ≤ nM) && (decide (hW h + mIx n + mIx n * mIx kk ≤ wM) && ok))))))) = true := hok
    simp only [Bool.and_eq_true, Bool.not_eq_true', decide_eq_true_eq, decide_eq_false_iff_not] at hok2
    obtain ⟨q0, q1, q2, q3, q4, q5, q6, -⟩ := hok2
    subst q0
    exact so_mna C hd he q1 q2 q3 q4 q5 q6 k
  all_goals cases hok
end SD
end
section
/-! A STRETCH OF ROWS. -/
theorem mU1_ff {st : List Value} {h : mHp} {f : Int32 → List Value → mC} (z : ∀ x r, (f x r).1 = false) : (mU1 st (mBad h) f).1 = false := by
  unfold mU1
  split
  · exact z _ _
  · rfl
theorem mU2_ff {st : List Value} {h : mHp} {f : Int32 → Int32 → List Value → mC} (z : ∀ x y r, (f x y r).1 = false) : (mU2 st (mBad h) f).1 = false := by
  unfold mU2
  split
  · exact z _ _ _
  · rfl
theorem mUl_ff {st : List Value} {h : mHp} {f : Int64 → List Value → mC} (z : ∀ x r, (f x r).1 = false) : (mUl st (mBad h) f).1 = false := by
  unfold mUl
  split
  · exact z _ _
  · rfl
theorem mUll_ff {st : List Value} {h : mHp} {f : Int64 → Int64 → List Value → mC} (z : ∀ x y r, (f x y r).1 = false) : (mUll st (mBad h) f).1 = false := by
  unfold mUll
  split
  · exact z _ _ _
  · rfl
theorem mUr_ff {st : List Value} {h : mHp} {f : Nat → List Value → mC} (z : ∀ x r, (f x r).1 = false) : (mUr st (mBad h) f).1 = false := by
  unfold mUr
  split
  · exact z _ _
  · rfl
theorem mUir_ff {st : List Value} {h : mHp} {f : Int32 → Nat → List Value → mC} (z : ∀ x y r, (f x y r).1 = false) : (mUir st (mBad h) f).1 = false := by
  unfold mUir
  split
  · exact z _ _ _
  · rfl
theorem mUxir_ff {st : List Value} {h : mHp} {f : Value → Int32 → Nat → List Value → mC} (z : ∀ v x y r, (f v x y r).1 = false) : (mUxir st (mBad h) f).1 = false := by
  unfold mUxir
  split
  · exact z _ _ _ _
  · rfl
theorem mUvr_ff {st : List Value} {h : mHp} {f : Value → Nat → List Value → mC} (z : ∀ x y r, (f x y r).1 = false) : (mUvr st (mBad h) f).1 = false := by
  unfold mUvr
  split
  · exact z _ _ _
  · rfl
theorem mUv_ff {st : List Value} {h : mHp} {f : Value → List Value → mC} (z : ∀ x r, (f x r).1 = false) : (mUv st (mBad h) f).1 = false := by
  unfold mUv
  split
  · exact z _ _
  · rfl
theorem mUvv_ff {st : List Value} {h : mHp} {f : Value → Value → List Value → mC} (z : ∀ x y r, (f x y r).1 = false) : (mUvv st (mBad h) f).1 = false := by
  unfold mUvv
  split
  · exact z _ _ _
  · rfl
theorem mUc_ff {st : List Value} {h : mHp} {f : Int32 → Int32 → Nat → Int32 → Nat → List Value → mC} (z : ∀ n dp d sp a r, (f n dp d sp a r).1 = false) : (mUc st (mBad h) f).1 = false := by
  unfold mUc
  split
  · exact z _ _ _ _ _ _
  · rfl
theorem mLd_ff {pc i cat : Nat} {L st : List Value} {h : mHp} : (mLd false pc L st h i cat).1 = false := by
  unfold mLd
  split <;> rfl
theorem mSto_ff {pc nL i cat : Nat} {L st : List Value} {h : mHp} : (mSto false pc nL L st h i cat).1 = false := by
  unfold mSto
  split <;> rfl
set_option maxHeartbeats 2000000 in
theorem mst_ff {nL : Nat} {fin : Bool} {nM wM : Nat} {q : mI} {f : mC} (hf : f.1 = false) : (mst nL fin nM wM q f).1 = false := by
  obtain ⟨pc, ins, len, a, b⟩ := q
  obtain ⟨ok, pc0, L, st, h⟩ := f
  simp only at hf
  subst hf
  cases ins
  case ldc i => by_cases z : b = 0 <;> simp [mst, mDis, c_ldc, z]
  case new i => simp [mst, mDis, c_new]
  case iinc i n =>
    show (match L.getD i (.retAddr 0) with
      | .int x => ((false, pc + 3, (mFix L i).set i (.int (x + Int32.ofInt n)), st, h) : mC)
      | _ => mBad h).1 = false
    split <;> rfl
  case dup =>
    show (c_dup nL fin nM wM pc a b false L st h).1 = false
    unfold c_dup
    split <;> rfl
  case pop =>
    show (c_pop nL fin nM wM pc a b false L st h).1 = false
    unfold c_pop
    split <;> rfl
  case dup2 =>
    show (c_dup2 nL fin nM wM pc a b false L st h).1 = false
    unfold c_dup2
    split <;> rfl
  case putfield i =>
    refine mUvr_ff (fun v r t => ?_)
    unfold mPutB
    split <;> simp [mBad]
  case istore i => exact (mSto_ff : (mSto false (pc + 2) nL L st h i 0).1 = false)
  case istore_n i => exact (mSto_ff : (mSto false (pc + 1) nL L st h (i : Nat) 0).1 = false)
  case astore i => exact (mSto_ff : (mSto false (pc + 2) nL L st h i 1).1 = false)
  case astore_n i => exact (mSto_ff : (mSto false (pc + 1) nL L st h (i : Nat) 1).1 = false)
  case lstore i => exact (mSto_ff : (mSto false (pc + 2) nL L st h i 2).1 = false)
  case lstore_n i => exact (mSto_ff : (mSto false (pc + 1) nL L st h (i : Nat) 2).1 = false)
  case lshl => exact mU1_ff (fun _ _ => mUl_ff (fun _ _ => rfl))
  case invokestatic i =>
    show (c_invokestatic nL fin nM wM pc a b false L st h).1 = false
    unfold c_invokestatic
    cases Nat.beq b 7777
    · rfl
    · simp only [cond_true]
      split <;> simp [mBad]
  case invokespecial i =>
    show (c_invokespecial nL fin nM wM pc a b false L st h).1 = false
    unfold c_invokespecial
    cases Nat.beq b 8888
    · rfl
    · simp only [cond_true]
      split <;> simp [mBad]
  case iastore => exact mUxir_ff (fun v _ _ _ => by cases v <;> simp [mBad])
  case bastore => exact mUxir_ff (fun v _ _ _ => by cases v <;> simp [mBad])
  case lastore => exact mUxir_ff (fun v _ _ _ => by cases v <;> simp [mBad])
  all_goals first
    | rfl
    | exact mLd_ff
    | exact mSto_ff
    | exact mU1_ff (fun _ _ => by simp)
    | exact mU2_ff (fun _ _ _ => by simp)
    | exact mUll_ff (fun _ _ _ => by simp)
    | exact mUr_ff (fun _ _ => by simp)
    | exact mUir_ff (fun _ _ _ => by simp)
    | exact mUvr_ff (fun _ _ _ => by simp)
    | exact mUv_ff (fun _ _ => by simp)
    | exact mUvv_ff (fun _ _ _ => by simp)
    | exact Bool.and_false _
    | simp [mst]
theorem mgo_ff {nL : Nat} {fin : Bool} {nM wM : Nat} : ∀ (qs : List mI) (f : mC), f.1 = false → (mgo nL fin nM wM qs f).1 = false
  | [], _, h => h
  | q :: qs, f, h => by
    show (mgo nL fin nM wM qs (cond (Nat.beq f.2.1 q.1) (mst nL fin nM wM q f) (mBad f.2.2.2.2))).1 = false
    refine mgo_ff qs _ ?_
    cases Nat.beq f.2.1 q.1
    · rfl
    · exact mst_ff h
/-- a method's rows are its code's, and the words say what their indices mean -/
def mTok (cc : ByteArray) (own : String) (nL : Nat) (fin : Bool) (T : List mI) : Prop := ∀ q ∈ T, decode cc q.1 = .ok (q.2.1, q.2.2.1) ∧ mLok q = true ∧ mSta nL fin q = true ∧ mEnt own q
section SG
variable {p : Program} {l : Launch} {e : Env} {R : Room} {s : State} {m : MethodId} {args : Array Value} {below : List Frame} {meth : Method} {c : Code} {Q : State → Prop} {cc : ByteArray} {own : String} {G : mG} {nL n0 w0 nM wM : Nat} {fin : Bool} {T : List mI}
theorem mgo_ok (C : mCx p R s m args meth c G cc own nL fin nM wM n0 w0) (hT : mTok cc own nL fin T) : ∀ (qs : List mI) (f : mC), (∀ q ∈ qs, q ∈ T) → (mgo nL fin nM wM qs f).1 = true → mW p l e R s m args below meth c G nL n0 w0 Q (mgo nL fin nM wM qs f) → mW p l e R s m args below meth c G nL n0 w0 Q f
  | [], _, _, _, k => k
  | q :: qs, f, hs, hok, k => by
    have k1 := mgo_ok C hT qs (cond (Nat.beq f.2.1 q.1) (mst nL fin nM wM q f) (mBad f.2.2.2.2)) (fun x hx => hs x (List.mem_cons_of_mem _ hx)) hok k
    have h1 : (cond (Nat.beq f.2.1 q.1) (mst nL fin nM wM q f) (mBad f.2.2.2.2)).1 = true := by
      cases z : (cond (Nat.beq f.2.1 q.1) (mst nL fin nM wM q f) (mBad f.2.2.2.2)).1
      · have h2 := mgo_ff (nL := nL) (fin := fin) (nM := nM) (wM := wM) qs _ z
        have h3 : (mgo nL fin nM wM qs (cond (Nat.beq f.2.1 q.1) (mst nL fin nM wM q f) (mBad f.2.2.2.2))).1 = true := hok
        rw [h2] at h3
        cases h3
      · rfl
    obtain ⟨g1, g2, g4, g3⟩ := hT q (hs q List.mem_cons_self)
    cases hb : Nat.beq f.2.1 q.1
    · rw [hb] at h1
      cases h1
    · rw [hb] at h1 k1
      exact mst_ok C g1 g2 g4 g3 (Nat.eq_of_beq_eq_true hb) h1 k1
/-- THE STRETCH RULE: n rows from the a-th on lead from f to g -/
theorem mseg (C : mCx p R s m args meth c G cc own nL fin nM wM n0 w0) (hT : mTok cc own nL fin T) (a n : Nat) {f g : mC} (he : mgo nL fin nM wM ((T.drop a).take n) f = g) (hok : g.1 = true) (k : mW p l e R s m args below meth c G nL n0 w0 Q g) : mW p l e R s m args below meth c G nL n0 w0 Q f :=
  mgo_ok C hT ((T.drop a).take n) f (fun q hq => List.mem_of_mem_drop (List.mem_of_mem_take hq)) (by rw [he]; exact hok) (by rw [he]; exact k)
end SG
end
section
/-! CONTRACTS: entry, returns, calls. -/
/-- a method: its name, code, locals, what it returns -/
abbrev mM : Type := MethodName × ByteArray × Nat × Option FieldType
def mWo (M : mM) : Cond := .code M.1 M.2.1 M.2.2.1 M.2.2.2
def mPre (G : mG) (h : mHp) (U : State) : Prop := mWd G h U.heap ∧ U.heap.size = G.1 + hN h ∧ va_K G.2.2.2.1 vwCl (mTys G) U ∧ mX G U U.heap
def mPost (G : mG) (h' : mHp) (r : Option Value) : Array Value → State → Outcome → State → Prop := fun _ st oc t => oc = .returned (r.map (mCv G)) ∧ mWd G h' t.heap ∧ va_F (mA G) st t
def mRm (d : Nat) (h h' : mHp) : Room := { frames := d, cells := hN h' - hN h, slots := hW h' - hW h, locals := 100 * d }
/-- CONTRACT: called with vs in the heap h, M returns r, and the heap is h' then; d: how deep its calls go -/
def mMet (l : Launch) (M : mM) (d : Nat) (vs : List Value) (h : mHp) (r : Option Value) (h' : mHp) : Prop :=
  hN h ≤ hN h' ∧ hW h ≤ hW h' ∧ ∀ G : mG, Met l M.1 (mWo M :: mTb) (mRm d h h') (va_Pc (vs.map (mCv G)) (mPre G h)) (mPost G h' r) (hN h' - hN h) (hW h' - hW h) (mA G)
theorem mX_warm {G : mG} {s U : State} (hW : s.WarmedH U.vm) {H : Heap} (h : mX G s H) : mX G U H := by
  obtain ⟨h1, h2, h3, h4, h5, ⟨f, hf, h6⟩, h7⟩ := h
  exact ⟨fun j q hq => (h1 j q hq).warm hW, h2.moved hW.alike, fun q hq => va_Nw.warmM hW (h3 q hq), mAO_moved hW.alike h4, h5.moved hW.alike, ⟨f, hf, h6.moved hW.alike⟩, h7⟩
theorem mX_same {G : mG} {s U : State} (hv : U.vm = s.vm) {H : Heap} (h : mX G s H) : mX G U H := by
  obtain ⟨h1, h2, h3, h4, h5, ⟨f, hf, h6⟩, h7⟩ := h
  have ha : s.vm.Alike U.vm := by rw [hv]; exact Vm.Alike.refl s.vm
  exact ⟨fun j q hq => (h1 j q hq).same hv, h2.moved ha, fun q hq => (h3 q hq).same rfl hv.symm, mAO_moved ha h4, h5.moved ha, ⟨f, hf, h6.moved ha⟩, h7⟩
theorem mX_kept {G : mG} {s : State} {H H1 : Heap} (h : mX G s H) (hq : ∀ a : Nat, a < H.size → ¬ mA G a → H1[a]? = H[a]?) : mX G s H1 := by
  obtain ⟨h1, h2, h3, h4, h5, ⟨f, hf, h6⟩, h7⟩ := h
  exact ⟨h1, h2.kept hq, h3, h4, h5.kept hq, ⟨f, hf, h6.kept hq⟩, h7⟩
theorem mPre_blind {G : mG} {h : mHp} {vs : List Value} : FrameBlind (va_Pc vs (mPre G h)) := by
  intro a U g mk q
  obtain ⟨q0, q1, q2, q3, q4⟩ := q
  exact ⟨q0, q1, q2, va_K.moved (u := U) (U := U.calling g mk a) (Vm.Alike.refl U.vm) q3, mX_same rfl q4⟩
/-- the locals at the entry -/
def mEx : List Value → List Value
  | [] => []
  | .long x :: vs => .long x :: .retAddr 0 :: mEx vs
  | v :: vs => v :: mEx vs
def mL0 (nL : Nat) (vs : List Value) : List Value := mEx vs ++ List.replicate (nL - (mEx vs).length) (.retAddr 0)
/-- no value that isn't one of ours -/
def mPl (vs : List Value) : Bool := vs.all (fun v => match v with
  | .int _ => true
  | .long _ => true
  | .ref _ => true
  | _ => false)
theorem mEx_args {G : mG} : ∀ (vs : List Value) (i j : Nat) (v : Value), mPl vs = true → (mEx vs)[j]? = some v → (∀ n, v ≠ .retAddr n) → (i + j, mCv G v) ∈ lv_args i (vs.map (mCv G))
  | [], i, j, v, _, h, _ => by simp [mEx] at h
  | w :: vs, i, j, v, hp, h, hn => by
    have hp2 : mPl vs = true := by
      unfold mPl at hp ⊢
      rw [List.all_cons, Bool.and_eq_true] at hp
      exact hp.2
    cases w with
    | long x =>
      have h2 : (Value.long x :: .retAddr 0 :: mEx vs)[j]? = some v := h
      match j, h2 with
      | 0, h2 =>
        cases h2
        exact List.mem_cons_self
      | 1, h2 =>
        have h3 : Value.retAddr 0 = v := by simpa using h2
        exact absurd h3.symm (hn 0)
      | j + 2, h2 =>
        have h3 : (mEx vs)[j]? = some v := by simpa using h2
        have := mEx_args (G := G) vs (i + 2) j v hp2 h3 hn
        rw [show i + (j + 2) = i + 2 + j by omega]
        exact List.mem_cons_of_mem _ this
    | int x =>
      have h2 : (Value.int x :: mEx vs)[j]? = some v := h
      match j, h2 with
      | 0, h2 =>
        cases h2
        exact List.mem_cons_self
      | j + 1, h2 =>
        have h3 : (mEx vs)[j]? = some v := by simpa using h2
        have := mEx_args (G := G) vs (i + 1) j v hp2 h3 hn
        rw [show i + (j + 1) = i + 1 + j by omega]
        exact List.mem_cons_of_mem _ this
    | ref x =>
      have h2 : (Value.ref x :: mEx vs)[j]? = some v := h
      match j, h2 with
      | 0, h2 =>
        cases h2
        exact List.mem_cons_self
      | j + 1, h2 =>
        have h3 : (mEx vs)[j]? = some v := by simpa using h2
        have := mEx_args (G := G) vs (i + 1) j v hp2 h3 hn
        rw [show i + (j + 1) = i + 1 + j by omega]
        refine List.mem_cons_of_mem _ ?_
        rw [if_neg (by rw [mCv_cat]; show ¬ (1 : Nat) = 2; decide)]
        exact this
    | float x => cases hp
    | double x => cases hp
    | null => cases hp
    | retAddr x => cases hp
theorem mEx_len {G : mG} : ∀ (vs : List Value), mPl vs = true → (lg_sl (vs.map (mCv G))).length = (mEx vs).length
  | [], _ => rfl
  | w :: vs, hp => by
    have hp2 : mPl vs = true := by
      unfold mPl at hp ⊢
      rw [List.all_cons, Bool.and_eq_true] at hp
      exact hp.2
    have ih := mEx_len (G := G) vs hp2
    have hc : lg_sl ((w :: vs).map (mCv G)) = (if (mCv G w).category = 2 then [.val (mCv G w), .second] else [.val (mCv G w)]) ++ lg_sl (vs.map (mCv G)) := by
      unfold lg_sl
      rw [List.map_cons, List.flatMap_cons]
    rw [hc, List.length_append, ih, mCv_cat]
    cases w with
    | long x => show 2 + _ = (Value.long x :: .retAddr 0 :: mEx vs).length; simp; omega
    | int x => show 1 + _ = (Value.int x :: mEx vs).length; simp; omega
    | ref x => show 1 + _ = (Value.ref x :: mEx vs).length; simp; omega
    | float x => cases hp
    | double x => cases hp
    | null => cases hp
    | retAddr x => cases hp
theorem mL0_has {G : mG} {ls : Array Slot} {nL : Nat} {vs : List Value} (hp : mPl vs = true) (h : lv_has ls nL (lv_args 0 (vs.map (mCv G)))) : lv_has ls nL (mLv G (mL0 nL vs)) := by
  refine ⟨h.1, h.2.1, fun q hq => ?_⟩
  obtain ⟨v, h1, h2, h3, h4⟩ := mLv_mem.mp hq
  have h5 : (mL0 nL vs)[q.1]? = some v := by
    rw [List.getD, List.getElem?_eq_getElem h1] at h2
    rw [List.getElem?_eq_getElem h1]
    exact congrArg some h2
  have h6 : (mEx vs)[q.1]? = some v := by
    unfold mL0 at h5
    by_cases c : q.1 < (mEx vs).length
    · rw [List.getElem?_append_left c] at h5
      exact h5
    · rw [List.getElem?_append_right (by omega)] at h5
      have := List.mem_of_getElem? h5
      have h7 := List.eq_of_mem_replicate this
      exact absurd h7 (h3 0)
  have h8 := mEx_args (G := G) vs 0 q.1 v hp h6 h3
  rw [Nat.zero_add] at h8
  have h9 : q = (q.1, mCv G v) := by
    obtain ⟨a, b⟩ := q
    simp only at h4
    rw [h4]
  rw [h9]
  exact h.2.2 _ h8
/-- THE ENTRY -/
theorem mMet_of {l : Launch} {M : mM} {d : Nat} {vs : List Value} {h h' : mHp} {r : Option Value} (fin : Bool) (hy : plainName M.1.cls = true) (hfin : fin = true → M.1.name = "<init>") (hd : 1 ≤ d) (hp : mPl vs = true) (hl : (mEx vs).length ≤ M.2.2.1) (hn : hN h ≤ hN h') (hw : hW h ≤ hW h') (h9 : hN h' ≤ 900000)
    (body : ∀ (p : Program) (e : Env) (s : State) (m : MethodId) (args : Array Value) (below : List Frame) (meth : Method) (c : Code) (G : mG), mCx p (mRm d h h') s m args meth c G M.2.1 M.1.cls M.2.2.1 fin (hN h') (hW h') (hN h) (hW h) → meth.sig.returnType = M.2.2.2 → meth.locks = false →
      mW p l e (mRm d h h') s m args below meth c G M.2.2.1 (hN h) (hW h) (MQ below (mPost G h' r) args s (hN h' - hN h) (hW h' - hW h) (mA G)) (true, 0, mL0 M.2.2.1 vs, [], h)) : mMet l M d vs h r h' := by
  refine ⟨hn, hw, fun G => ?_⟩
  refine Met.ofW (cc := M.2.1) (maxL := M.2.2.1) (ret := M.2.2.2) hy rfl ?_
  intro p e s m args below meth c s₁ B hml hv
  obtain ⟨rfl, hP, hsz, hK, hX⟩ := hv
  have hts := atoms_spec (ws := mWo M :: mTb) B.pre
  have hown : s.vm.findClass M.1.cls = some m.cls := findClass_of_methodNamed B.named
  have hnm : meth.name = M.1.name := (name_of_methodNamed B.named B.method).1
  have hl2 : (lg_sl (vs.map (mCv G))).length ≤ M.2.2.1 := by rw [mEx_len vs hp]; exact hl
  have hls := lv_entry (vs.map (mCv G)) hl2
  rw [lg_entry_eq]
  have k := body p e s m (vs.map (mCv G)).toArray below meth c G ⟨B.exec, B.bytes, hml, hown, fun w hw => hts w (List.mem_cons_of_mem _ hw), hK, hsz, hX, ⟨by show hN h' ≤ hN h + (hN h' - hN h); omega, by show hW h' ≤ hW h + (hW h' - hW h); omega, h9⟩, ⟨hd, by show 100 ≤ 100 * d; omega⟩, fun z => hnm.trans (hfin z)⟩ B.returns B.notSynchronized
  have k1 := k s.heap [] _ hP va_S.rf (mL0_has hp hls) (Nat.le_refl _) (Nat.le_refl _)
  have k2 : W p l e (mRm d h h') s m (vs.map (mCv G)).toArray below meth c s.heap [] (hN h - hN h) (hW h - hW h) (MQ below (mPost G h' r) (vs.map (mCv G)).toArray s (hN h' - hN h) (hW h' - hW h) (mA G)) (F0 m 0 _ []) := k1
  rw [Nat.sub_self, Nat.sub_self] at k2
  exact k2
section SC
variable {p : Program} {l : Launch} {e : Env} {R : Room} {s : State} {m : MethodId} {args : Array Value} {below : List Frame} {meth : Method} {c : Code} {Q : State → Prop} {cc : ByteArray} {own : String} {G : mG} {nL n0 w0 nM wM : Nat} {fin : Bool}
/-! returns -/
theorem mret_i (C : mCx p R s m args meth c G cc own nL fin nM wM n0 w0) (hr : meth.sig.returnType = some .int) (hk : meth.locks = false) {pc : Nat} {ok : Bool} {L : List Value} {h : mHp} {v : Int32} (hd : decode cc pc = .ok (.ireturn, 1)) :
    mW p l e R s m args below meth c G nL n0 w0 (MQ below (mPost G h (some (.int v))) args s (hN h - n0) (hW h - w0) (mA G)) (ok, pc, L, [.int v], h) := by
  intro H locs ls hw hQ hv h0 h1
  exact W.iret (v := v) C.1 C.2.1 hr (fun t ht _ => ⟨rfl, by rw [ht]; exact hw, hQ.F ht⟩) hQ.2.2 hd hk
theorem mret_z (C : mCx p R s m args meth c G cc own nL fin nM wM n0 w0) {ty : FieldType} (hr : meth.sig.returnType = some ty) (hk : meth.locks = false) {pc : Nat} {ok : Bool} {L : List Value} {h : mHp} {v : Int32} (hn : narrow ty (.int v) = .int v) (hd : decode cc pc = .ok (.ireturn, 1)) :
    mW p l e R s m args below meth c G nL n0 w0 (MQ below (mPost G h (some (.int v))) args s (hN h - n0) (hW h - w0) (mA G)) (ok, pc, L, [.int v], h) := by
  intro H locs ls hw hQ hv h0 h1
  exact W.zret (v := v) C.1 C.2.1 hr hn (fun t ht _ => ⟨rfl, by rw [ht]; exact hw, hQ.F ht⟩) hQ.2.2 hd hk
theorem mret_l (C : mCx p R s m args meth c G cc own nL fin nM wM n0 w0) (hr : meth.sig.returnType = some .long) (hk : meth.locks = false) {pc : Nat} {ok : Bool} {L : List Value} {h : mHp} {v : Int64} (hd : decode cc pc = .ok (.lreturn, 1)) :
    mW p l e R s m args below meth c G nL n0 w0 (MQ below (mPost G h (some (.long v))) args s (hN h - n0) (hW h - w0) (mA G)) (ok, pc, L, [.long v], h) := by
  intro H locs ls hw hQ hv h0 h1
  exact W.lret (v := v) C.1 C.2.1 hr (fun t ht _ => ⟨rfl, by rw [ht]; exact hw, hQ.F ht⟩) hQ.2.2 hd hk
theorem mret_v (C : mCx p R s m args meth c G cc own nL fin nM wM n0 w0) (hr : meth.sig.returnType = none) (hk : meth.locks = false) {pc : Nat} {ok : Bool} {L : List Value} {h : mHp} (hd : decode cc pc = .ok (.return_, 1)) :
    mW p l e R s m args below meth c G nL n0 w0 (MQ below (mPost G h none) args s (hN h - n0) (hW h - w0) (mA G)) (ok, pc, L, [], h) := by
  intro H locs ls hw hQ hv h0 h1
  exact W.vret C.1 C.2.1 hr (fun t ht _ => ⟨rfl, by rw [ht]; exact hw, hQ.F ht⟩) hQ.2.2 hd hk
/-! calls -/
theorem mrun_go {H : Heap} {locs : List Loc} {cells slots mc ms pc : Nat} {ls : Array Slot} {st0 rest : List Value} {h' : mHp} {r : Option Value} {a : Array Value} (hr : va_Run p l e R s m args below meth c H locs cells slots mc ms (F0 m pc ls st0) rest (mPost G h' r a) (mA G)) (hS : va_S (mA G) s.heap H locs)
    (kk : ∀ (H1 : Heap) (locs1 : List Loc), mWd G h' H1 → va_S (mA G) s.heap H1 locs1 → W p l e R s m args below meth c H1 locs1 (cells + mc) (slots + ms) Q (F0 m (pc + 3) ls ((r.map (mCv G)).toList ++ rest))) : W p l e R s m args below meth c H locs cells slots Q (F0 m pc ls st0) := by
  intro T hT X
  obtain ⟨v, st₀, t, T', L, h0, X', hL, e1, e2, ⟨hv, hb, hz, hk⟩, st⟩ := hr T hT X
  cases hv
  rw [h0] at hz hk
  obtain ⟨t2, a1, b1⟩ := kk T'.heap (locs ++ L) (by rw [e1]; exact hb)
    ⟨Nat.le_trans hS.1 (by rw [e1]; exact hz), fun q h1 h2 => by rw [e1, hk q (Nat.lt_of_lt_of_le h1 hS.1) h2]; exact hS.2.1 q h1 h2, fun q hq => by
      rcases List.mem_append.mp hq with h | h
      · exact hS.2.2 q h
      · exact hL q h⟩ T' rfl X'
  exact ⟨t2, st t2 a1, b1⟩
/-- the words of a call: 0 virtual, 1 static, 2 a nest mate's static, 3 a constructor, 4 a nest mate's constructor -/
def mLk (kd : Nat) (own : String) (i : Nat) (M : mM) (n : Nat) : Prop :=
  (M.1.cls ≠ "java/lang/invoke/MethodHandle" ∧ M.1.cls ≠ "java/lang/invoke/VarHandle" ∧ (parseMethodDescriptor M.1.desc).map (fun d => d.parameters.length) = some n) ∧ mWo M ∈ mTb ∧ Cond.initialized M.1.cls ∈ mTb ∧
  (match kd with
    | 0 => Cond.methodLink own i M.1 ∈ mTb ∧ Cond.instanceMethod M.1 ∈ mTb ∧ Cond.selects M.1.cls M.1 M.1 ∈ mTb
    | 1 => Cond.methodLink own i M.1 ∈ mTb ∧ Cond.static M.1 ∈ mTb
    | 2 => (∃ h, (own, i, M.1, h) ∈ mNs) ∧ Cond.static M.1 ∈ mTb
    | 3 => Cond.methodLink own i M.1 ∈ mTb ∧ Cond.instanceMethod M.1 ∈ mTb ∧ M.1.name = "<init>" ∧ M.2.2.2 = none
    | _ => (∃ h, (own, i, M.1, h) ∈ mNs) ∧ Cond.instanceMethod M.1 ∈ mTb ∧ M.1.name = "<init>" ∧ M.2.2.2 = none)
theorem mGood {M : mM} (h : mWo M ∈ mTb) : GoodIn mTb (mWo M :: mTb) := fun w hw => by
  rcases List.mem_cons.mp hw with rfl | hw
  · exact ⟨h, mTb_good _ h⟩
  · exact ⟨hw, mTb_good _ hw⟩
theorem mPre_call (C : mCx p R s m args meth c G cc own nL fin nM wM n0 w0) {H : Heap} {locs : List Loc} {h : mHp} {vs : List Value} (hw : mWd G h H) (hS : va_S (mA G) s.heap H locs) (hz : H.size = G.1 + hN h) : ∀ U : State, U.heap = H → s.WarmedH U.vm → va_Pc (vs.map (mCv G)) (mPre G h) (vs.map (mCv G)).toArray U := by
  intro U hU hW
  refine ⟨rfl, by rw [hU]; exact hw, by rw [hU]; exact hz, C.2.2.2.2.2.1.moved hW.alike, ?_⟩
  rw [hU]
  exact mX_warm hW (mX_kept C.2.2.2.2.2.2.2.1 hS.2.1)
theorem mcall {kd i n pc d : Nat} {M : mM} (C : mCx p R s m args meth c G cc own nL fin nM wM n0 w0) (hk : mLk kd own i M n) {ok ok' : Bool} {L vs rest : List Value} {h h' : mHp} {r : Option Value} (hM : mMet l M d vs h r h')
    (hd : match kd with | 0 => decode cc pc = .ok (.invokevirtual i, 3) | 1 => decode cc pc = .ok (.invokestatic i, 3) | 2 => decode cc pc = .ok (.invokestatic i, 3) | _ => decode cc pc = .ok (.invokespecial i, 3))
    (hv : match kd with | 0 => ∃ a vs', vs = .ref a :: vs' ∧ vs'.length = n ∧ a < hN h ∧ ∃ ci r0, hS h a = .inl ci ∧ vwCl[ci]? = some r0 ∧ r0.1 = M.1.cls | 1 => vs.length = n | 2 => vs.length = n | _ => ∃ a vs', vs = .ref a :: vs' ∧ vs'.length = n ∧ a < hN h)
    (hf : d + 1 ≤ R.frames) (hlo : 19 + M.2.2.1 + 100 * d ≤ R.locals) (hnM : hN h' ≤ nM) (hwM : hW h' ≤ wM) (hcat : (rest.map fun v => v.category).sum ≤ 8)
    (k : mW p l e R s m args below meth c G nL n0 w0 Q (ok', pc + 3, L, r.toList ++ rest, h')) : mW p l e R s m args below meth c G nL n0 w0 Q (ok, pc, L, vs.reverse ++ rest, h) := by
  intro H locs ls hw hQ hl h0 h1
  have h0 : n0 ≤ hN h := h0
  have h1 : w0 ≤ hW h := h1
  refine W_sz fun hz => ?_
  have hsz2 : H.size = G.1 + hN h := mWd_sz hw C.2.2.2.2.2.2.1 hz h0 hQ.1
  have hpre := mPre_call (vs := vs) C hw hQ hsz2
  obtain ⟨m1, m2, hMet⟩ := hM
  have hG := hMet G
  obtain ⟨hx, hb, hml, hown, hts, hK, hsz, hX, ⟨hnm1, hnm2, hnm3⟩, hfr, hfin⟩ := C
  obtain ⟨kd1, kd2, kd3, kd4⟩ := hk
  have hR : (mRm d h h').frames + 1 ≤ R.frames ∧ 8 + (M.2.2.1 + 11) + (mRm d h h').locals ≤ R.locals := ⟨hf, by show 8 + (M.2.2.1 + 11) + 100 * d ≤ R.locals; omega⟩
  have hroom : hN h - n0 + (hN h' - hN h) ≤ R.cells ∧ hW h - w0 + (hW h' - hW h) ≤ R.slots := ⟨by omega, by omega⟩
  have hcat2 : 2 * (F0 m pc ls ((vs.reverse ++ rest).map (mCv G))).monitorRoom + ((rest.map (mCv G)).map fun v => v.category).sum ≤ 8 := lv_room (by rw [mCv_cats]; exact hcat)
  have fx : CallFix p m c cc nL s args mTb own := ⟨hx, hb, hml, hown, hts⟩
  have go : ∀ a : Array Value, va_Run p l e R s m args below meth c H locs (hN h - n0) (hW h - w0) (hN h' - hN h) (hW h' - hW h) (F0 m pc ls ((vs.reverse ++ rest).map (mCv G))) (rest.map (mCv G)) (mPost G h' r a) (mA G) → W p l e R s m args below meth c H locs (hN h - n0) (hW h - w0) Q (F0 m pc ls ((vs.reverse ++ rest).map (mCv G))) := by
    intro a hrun
    refine mrun_go hrun hQ fun H1 locs1 hw1 hQ1 => ?_
    have k1 := k H1 locs1 ls hw1 hQ1 hl (Nat.le_trans h0 m1) (Nat.le_trans h1 m2)
    have k2 : W p l e R s m args below meth c H1 locs1 (hN h' - n0) (hW h' - w0) Q (F0 m (pc + 3) ls ((r.toList ++ rest).map (mCv G))) := k1
    rw [show hN h - n0 + (hN h' - hN h) = hN h' - n0 by omega, show hW h - w0 + (hW h' - hW h) = hW h' - w0 by omega]
    have e9 : (r.toList ++ rest).map (mCv G) = (r.map (mCv G)).toList ++ rest.map (mCv G) := by
      cases r <;> rfl
    rw [e9] at k2
    exact k2
  have hlsz : ls.size = nL := hl.1
  match kd, kd4, hd, hv with
  | 0, ⟨q1, q2, q3⟩, hd, ⟨a, vs', e1, e2, e3, ci, r0, e4, e5, e6⟩ =>
    subst e1
    have ea : (mCv G (.ref a)) = .ref (G.1 + a) := mCv_ref (Nat.lt_of_lt_of_le e3 hw.2)
    have hpre2 : ∀ U : State, U.heap = H → s.WarmedH U.vm → va_Pc ((Value.ref a :: vs').map (mCv G)) (mPre G h) (Value.ref (G.1 + a) :: vs'.map (mCv G)).toArray U := by
      rw [← ea]; exact hpre
    refine go _ (va_runV (As := vs'.map (mCv G)) (rest := rest.map (mCv G)) (b := G.1 + a) (C := M.1.cls) fx hG ⟨callB_of n hts (mGood kd2) rfl rfl rfl (hts _ kd3) (hts _ q1) kd1 hR, hts _ q2, hts _ q3⟩ ⟨mPre_blind, ?_, hpre2⟩ rfl (by rw [List.length_map]; exact e2) hlsz ?_ hcat2 hd hroom)
    · have := va_recv hK hw.1 (q0 := a) (ci := ci) e5 (by rw [mWs_get e3, mEl_O e4])
      rw [e6] at this
      exact this
    · show ((Value.ref a :: vs').reverse ++ rest).map (mCv G) = _
      rw [List.map_append, List.map_reverse, List.map_cons, List.reverse_cons, List.append_assoc, ea]
      rfl
  | 1, ⟨q1, q2⟩, hd, hv =>
    refine go _ (va_runS (As := vs.map (mCv G)) (rest := rest.map (mCv G)) fx hG ⟨callB_of n hts (mGood kd2) rfl rfl rfl (hts _ kd3) (hts _ q1) kd1 hR, hts _ q2⟩ ⟨mPre_blind, hpre⟩ rfl (by rw [List.length_map]; exact hv) hlsz ?_ hcat2 hd hroom)
    show (vs.reverse ++ rest).map (mCv G) = _
    rw [List.map_append, List.map_reverse]
  | 2, ⟨⟨ho, q1⟩, q2⟩, hd, hv =>
    refine go _ (va_runSN (As := vs.map (mCv G)) (rest := rest.map (mCv G)) (host := ho) fx hG ⟨va_cnB n hts (mGood kd2) rfl rfl rfl (hX.2.2.1 _ q1) (hts _ kd3) kd1 hR, hts _ q2, trivial⟩ ⟨mPre_blind, hpre⟩ rfl (by rw [List.length_map]; exact hv) hlsz ?_ hcat2 hd hroom)
    show (vs.reverse ++ rest).map (mCv G) = _
    rw [List.map_append, List.map_reverse]
  | 3, ⟨q1, q2, q3, q4⟩, hd, ⟨a, vs', e1, e2, e3⟩ =>
    subst e1
    obtain ⟨y, bc, ml, rt⟩ := M
    simp only at q4
    subst q4
    have ea : (mCv G (.ref a)) = .ref (G.1 + a) := mCv_ref (Nat.lt_of_lt_of_le e3 hw.2)
    have hpre2 : ∀ U : State, U.heap = H → s.WarmedH U.vm → va_Pc ((Value.ref a :: vs').map (mCv G)) (mPre G h) (Value.ref (G.1 + a) :: vs'.map (mCv G)).toArray U := by
      rw [← ea]; exact hpre
    refine go _ (va_runI (As := vs'.map (mCv G)) (rest := rest.map (mCv G)) (b := G.1 + a) fx hG ⟨callB_of n hts (mGood kd2) rfl rfl rfl (hts _ kd3) (hts _ q1) kd1 hR, q3, hts _ q2⟩ ⟨mPre_blind, hpre2⟩ rfl (by rw [List.length_map]; exact e2) hlsz ?_ hcat2 hd hroom)
    show ((Value.ref a :: vs').reverse ++ rest).map (mCv G) = _
    rw [List.map_append, List.map_reverse, List.map_cons, List.reverse_cons, List.append_assoc, ea]
    rfl
  | n4 + 4, ⟨⟨ho, q1⟩, q2, q3, q4⟩, hd, ⟨a, vs', e1, e2, e3⟩ =>
    subst e1
    obtain ⟨y, bc, ml, rt⟩ := M
    simp only at q4
    subst q4
    have ea : (mCv G (.ref a)) = .ref (G.1 + a) := mCv_ref (Nat.lt_of_lt_of_le e3 hw.2)
    have hpre2 : ∀ U : State, U.heap = H → s.WarmedH U.vm → va_Pc ((Value.ref a :: vs').map (mCv G)) (mPre G h) (Value.ref (G.1 + a) :: vs'.map (mCv G)).toArray U := by
      rw [← ea]; exact hpre
    refine go _ (va_runIN (As := vs'.map (mCv G)) (rest := rest.map (mCv G)) (b := G.1 + a) (host := ho) fx hG ⟨va_cnB n hts (mGood kd2) rfl rfl rfl (hX.2.2.1 _ q1) (hts _ kd3) kd1 hR, q3, hts _ q2⟩ ⟨mPre_blind, hpre2⟩ rfl (by rw [List.length_map]; exact e2) hlsz ?_ hcat2 hd hroom)
    show ((Value.ref a :: vs').reverse ++ rest).map (mCv G) = _
    rw [List.map_append, List.map_reverse, List.map_cons, List.reverse_cons, List.append_assoc, ea]
    rfl
end SC
end
section
theorem mTb_at (i : Nat) {w : Cond} (h : tables_1[i]? = some w) (hg : goodWord w = true) : w ∈ mTb := List.mem_filter.mpr ⟨List.mem_append_right _ (List.mem_of_getElem? h), hg⟩
theorem mTb_sl (i : Nat) {w : Cond} (h : (k2_sels lw_privs)[i]? = some w) (hg : goodWord w = true) : w ∈ mTb := List.mem_filter.mpr ⟨List.mem_append_left _ (List.mem_of_getElem? h), hg⟩
def mAll (own : String) : List mI → Prop
  | [] => True
  | q :: qs => mEnt own q ∧ mAll own qs
theorem mTok_of {cc : ByteArray} {own : String} {nL : Nat} {fin : Bool} {T : List mI} (h1 : (T.all fun q => decide (decode cc q.1 = .ok (q.2.1, q.2.2.1)) && (mLok q && mSta nL fin q)) = true) (h2 : mAll own T) : mTok cc own nL fin T := by
  intro q hq
  have h3 := List.all_eq_true.mp h1 q hq
  rw [Bool.and_eq_true, Bool.and_eq_true] at h3
  refine ⟨of_decide_eq_true h3.1, h3.2.1, h3.2.2, ?_⟩
  clear h1 h3
  induction T with
  | nil => cases hq
  | cons a t ih =>
    rcases List.mem_cons.mp hq with rfl | hq
    · exact h2.1
    · exact ih h2.2 hq
theorem ls_RX11 : Cond.instantiable RX11 15 ∈ mTb := mTb_at 23 (by decide +kernel) rfl
theorem ls_RX4 : Cond.instantiable RX4 10 ∈ mTb := mTb_at 31 (by decide +kernel) rfl
theorem ls_RX8 : Cond.instantiable RX8 12 ∈ mTb := mTb_at 72 (by decide +kernel) rfl
theorem ls_RX0 : Cond.instantiable RX0 5 ∈ mTb := mTb_at 78 (by decide +kernel) rfl
theorem ls_RX2 : Cond.instantiable RX2 6 ∈ mTb := mTb_at 157 (by decide +kernel) rfl
theorem ls_RX1 : Cond.instantiable RX1 4 ∈ mTb := mTb_at 188 (by decide +kernel) rfl
theorem ls_RX6 : Cond.instantiable RX6 9 ∈ mTb := mTb_at 209 (by decide +kernel) rfl
theorem ls_RX7 : Cond.instantiable RX7 5 ∈ mTb := mTb_at 245 (by decide +kernel) rfl
theorem ls_RX5 : Cond.instantiable RX5 6 ∈ mTb := mTb_at 268 (by decide +kernel) rfl
theorem ls_RX10 : Cond.instantiable RX10 15 ∈ mTb := mTb_at 302 (by decide +kernel) rfl
theorem ls_RX9 : Cond.instantiable RX9 3 ∈ mTb := mTb_at 309 (by decide +kernel) rfl
theorem ls_RX3 : Cond.instantiable RX3 9 ∈ mTb := mTb_at 380 (by decide +kernel) rfl
theorem ls_RX12 : Cond.instantiable RX12 73 ∈ mTb := mTb_at 1222 (by decide +kernel) rfl
theorem li_RL : Cond.initialized RL ∈ mTb := mTb_at 0 (by decide +kernel) rfl
theorem li_RX11 : Cond.initialized RX11 ∈ mTb := mTb_at 1 (by decide +kernel) rfl
theorem li_RX4 : Cond.initialized RX4 ∈ mTb := mTb_at 2 (by decide +kernel) rfl
theorem li_RX8 : Cond.initialized RX8 ∈ mTb := mTb_at 3 (by decide +kernel) rfl
theorem li_RX0 : Cond.initialized RX0 ∈ mTb := mTb_at 4 (by decide +kernel) rfl
theorem li_RX2 : Cond.initialized RX2 ∈ mTb := mTb_at 5 (by decide +kernel) rfl
theorem li_RX1 : Cond.initialized RX1 ∈ mTb := mTb_at 6 (by decide +kernel) rfl
theorem li_RX6 : Cond.initialized RX6 ∈ mTb := mTb_at 7 (by decide +kernel) rfl
theorem li_RX7 : Cond.initialized RX7 ∈ mTb := mTb_at 8 (by decide +kernel) rfl
theorem li_RX5 : Cond.initialized RX5 ∈ mTb := mTb_at 9 (by decide +kernel) rfl
theorem li_RX10 : Cond.initialized RX10 ∈ mTb := mTb_at 10 (by decide +kernel) rfl
theorem li_RX9 : Cond.initialized RX9 ∈ mTb := mTb_at 11 (by decide +kernel) rfl
theorem li_RX3 : Cond.initialized RX3 ∈ mTb := mTb_at 12 (by decide +kernel) rfl
theorem li_RX12 : Cond.initialized RX12 ∈ mTb := mTb_at 13 (by decide +kernel) rfl
theorem li_RJ0 : Cond.initialized RJ0 ∈ mTb := mTb_at 14 (by decide +kernel) rfl
theorem li_RJ1 : Cond.initialized RJ1 ∈ mTb := mTb_at 15 (by decide +kernel) rfl
theorem li_RJ3 : Cond.initialized RJ3 ∈ mTb := mTb_at 16 (by decide +kernel) rfl
theorem li_RJ2 : Cond.initialized RJ2 ∈ mTb := mTb_at 17 (by decide +kernel) rfl
theorem li_RJ7 : Cond.initialized RJ7 ∈ mTb := mTb_at 18 (by decide +kernel) rfl
theorem li_RJ10 : Cond.initialized RJ10 ∈ mTb := mTb_at 19 (by decide +kernel) rfl
theorem li_RJ9 : Cond.initialized RJ9 ∈ mTb := mTb_at 20 (by decide +kernel) rfl
theorem li_RJ6 : Cond.initialized RJ6 ∈ mTb := mTb_at 21 (by decide +kernel) rfl
theorem la_int : Cond.arrayClass .int ∈ mTb := mTb_at 104 (by decide +kernel) rfl
theorem la_byte : Cond.arrayClass .byte ∈ mTb := mTb_at 70 (by decide +kernel) rfl
theorem la_boolean : Cond.arrayClass .boolean ∈ mTb := mTb_at 186 (by decide +kernel) rfl
theorem la_long : Cond.arrayClass .long ∈ mTb := mTb_at 103 (by decide +kernel) rfl
theorem lfRX11_10 : Cond.fieldLink RX11 10 "StoneCensus" "reader" "LStoneCensus$Reader;" ∈ mTb := mTb_at 418 (by decide +kernel) rfl
theorem lfRX11_19 : Cond.fieldLink RX11 19 "StoneCensus" "sheet" "LStoneCensus$Sheet;" ∈ mTb := mTb_at 419 (by decide +kernel) rfl
theorem lfRX11_23 : Cond.fieldLink RX11 23 "StoneCensus" "spare" "LStoneCensus$Sheet;" ∈ mTb := mTb_at 420 (by decide +kernel) rfl
theorem lfRX11_26 : Cond.fieldLink RX11 26 "StoneCensus" "now" "[I" ∈ mTb := mTb_at 421 (by decide +kernel) rfl
theorem lfRX11_30 : Cond.fieldLink RX11 30 "StoneCensus" "trial" "[I" ∈ mTb := mTb_at 422 (by decide +kernel) rfl
theorem lfRX11_36 : Cond.fieldLink RX11 36 "StoneCensus" "history" "LStoneCensus$History;" ∈ mTb := mTb_at 423 (by decide +kernel) rfl
theorem lfRX11_43 : Cond.fieldLink RX11 43 "StoneCensus" "hiding" "LStoneCensus$Hiding;" ∈ mTb := mTb_at 424 (by decide +kernel) rfl
theorem lfRX11_50 : Cond.fieldLink RX11 50 "StoneCensus" "road" "LStoneCensus$Road;" ∈ mTb := mTb_at 425 (by decide +kernel) rfl
theorem lfRX11_57 : Cond.fieldLink RX11 57 "StoneCensus" "seating" "LStoneCensus$Seating;" ∈ mTb := mTb_at 426 (by decide +kernel) rfl
theorem lfRX11_64 : Cond.fieldLink RX11 64 "StoneCensus" "reports" "LStoneCensus$Reports;" ∈ mTb := mTb_at 427 (by decide +kernel) rfl
theorem lfRX11_71 : Cond.fieldLink RX11 71 "StoneCensus" "known" "LStoneCensus$Truths;" ∈ mTb := mTb_at 428 (by decide +kernel) rfl
theorem lfRX11_78 : Cond.fieldLink RX11 78 "StoneCensus" "accused" "LStoneCensus$Liars;" ∈ mTb := mTb_at 429 (by decide +kernel) rfl
theorem lfRX11_82 : Cond.fieldLink RX11 82 "StoneCensus" "lying" "[I" ∈ mTb := mTb_at 430 (by decide +kernel) rfl
theorem lfRX11_85 : Cond.fieldLink RX11 85 "StoneCensus$Reader" "length" "I" ∈ mTb := mTb_at 37 (by decide +kernel) rfl
theorem lfRX11_107 : Cond.fieldLink RX11 107 "StoneCensus$Reports" "count" "I" ∈ mTb := mTb_at 287 (by decide +kernel) rfl
theorem lfRX11_114 : Cond.fieldLink RX11 114 "StoneCensus" "lyingCount" "I" ∈ mTb := mTb_at 431 (by decide +kernel) rfl
theorem lfRX11_117 : Cond.fieldLink RX11 117 "StoneCensus$Sheet" "count" "I" ∈ mTb := mTb_at 125 (by decide +kernel) rfl
theorem lfRX11_118 : Cond.fieldLink RX11 118 "StoneCensus$Reader" "fault" "I" ∈ mTb := mTb_at 40 (by decide +kernel) rfl
theorem lfRX11_121 : Cond.fieldLink RX11 121 "StoneCensus$Reader" "faultPlace" "I" ∈ mTb := mTb_at 41 (by decide +kernel) rfl
theorem lfRX11_128 : Cond.fieldLink RX11 128 "StoneCensus$Sheet" "places" "[I" ∈ mTb := mTb_at 108 (by decide +kernel) rfl
theorem lfRX11_131 : Cond.fieldLink RX11 131 "StoneCensus$Sheet" "jams" "[I" ∈ mTb := mTb_at 112 (by decide +kernel) rfl
theorem lfRX11_134 : Cond.fieldLink RX11 134 "StoneCensus$Sheet" "habits" "[I" ∈ mTb := mTb_at 114 (by decide +kernel) rfl
theorem lfRX11_183 : Cond.fieldLink RX11 183 "StoneCensus$Hiding" "chosen" "[I" ∈ mTb := mTb_at 197 (by decide +kernel) rfl
theorem lfRX11_198 : Cond.fieldLink RX11 198 "StoneCensus$Road" "who" "[I" ∈ mTb := mTb_at 217 (by decide +kernel) rfl
theorem lfRX11_210 : Cond.fieldLink RX11 210 "StoneCensus$Seating" "given" "[I" ∈ mTb := mTb_at 252 (by decide +kernel) rfl
theorem lfRX11_235 : Cond.fieldLink RX11 235 "StoneCensus$Road" "knocks" "[I" ∈ mTb := mTb_at 223 (by decide +kernel) rfl
theorem lfRX11_238 : Cond.fieldLink RX11 238 "StoneCensus" "time" "I" ∈ mTb := mTb_at 432 (by decide +kernel) rfl
theorem lfRX11_253 : Cond.fieldLink RX11 253 "StoneCensus$Truths" "total" "I" ∈ mTb := mTb_at 341 (by decide +kernel) rfl
theorem lfRX11_268 : Cond.fieldLink RX11 268 "StoneCensus$Liars" "row" "[I" ∈ mTb := mTb_at 393 (by decide +kernel) rfl
theorem lfRX11_271 : Cond.fieldLink RX11 271 "StoneCensus$Liars" "fewest" "I" ∈ mTb := mTb_at 395 (by decide +kernel) rfl
theorem lfRX11_288 : Cond.fieldLink RX11 288 "StoneCensus$Truths" "tally" "[[I" ∈ mTb := mTb_at 332 (by decide +kernel) rfl
theorem lfRX11_299 : Cond.fieldLink RX11 299 "StoneCensus$History" "filled" "[Z" ∈ mTb := mTb_at 167 (by decide +kernel) rfl
theorem lfRX11_306 : Cond.fieldLink RX11 306 "StoneCensus$History" "behind" "I" ∈ mTb := mTb_at 170 (by decide +kernel) rfl
theorem lfRX11_309 : Cond.fieldLink RX11 309 "StoneCensus$History" "ahead" "I" ∈ mTb := mTb_at 172 (by decide +kernel) rfl
theorem lfRX0_9 : Cond.fieldLink RX0 9 "StoneCensus$Formula" "code" "[I" ∈ mTb := mTb_at 83 (by decide +kernel) rfl
theorem lfRX0_15 : Cond.fieldLink RX0 15 "StoneCensus$Formula" "stack" "[I" ∈ mTb := mTb_at 84 (by decide +kernel) rfl
theorem lfRX0_18 : Cond.fieldLink RX0 18 "StoneCensus$Formula" "length" "I" ∈ mTb := mTb_at 85 (by decide +kernel) rfl
theorem lfRX0_22 : Cond.fieldLink RX0 22 "StoneCensus$Formula" "units" "I" ∈ mTb := mTb_at 86 (by decide +kernel) rfl
theorem lfRX0_25 : Cond.fieldLink RX0 25 "StoneCensus$Formula" "told" "Z" ∈ mTb := mTb_at 89 (by decide +kernel) rfl
theorem lfRX1_11 : Cond.fieldLink RX1 11 "StoneCensus$Hiding" "taxes" "[[I" ∈ mTb := mTb_at 194 (by decide +kernel) rfl
theorem lfRX1_16 : Cond.fieldLink RX1 16 "StoneCensus$Hiding" "cheapest" "[[I" ∈ mTb := mTb_at 195 (by decide +kernel) rfl
theorem lfRX1_19 : Cond.fieldLink RX1 19 "StoneCensus$Hiding" "chosen" "[I" ∈ mTb := mTb_at 196 (by decide +kernel) rfl
theorem lfRX1_23 : Cond.fieldLink RX1 23 "StoneCensus$Sheet" "count" "I" ∈ mTb := mTb_at 123 (by decide +kernel) rfl
theorem lfRX1_29 : Cond.fieldLink RX1 29 "StoneCensus$Hiding" "count" "I" ∈ mTb := mTb_at 198 (by decide +kernel) rfl
theorem lfRX1_39 : Cond.fieldLink RX1 39 "StoneCensus$Sheet" "jams" "[I" ∈ mTb := mTb_at 111 (by decide +kernel) rfl
theorem lfRX2_11 : Cond.fieldLink RX2 11 "StoneCensus$History" "rows" "[[I" ∈ mTb := mTb_at 164 (by decide +kernel) rfl
theorem lfRX2_16 : Cond.fieldLink RX2 16 "StoneCensus$History" "boxes" "[[I" ∈ mTb := mTb_at 165 (by decide +kernel) rfl
theorem lfRX2_19 : Cond.fieldLink RX2 19 "StoneCensus$History" "filled" "[Z" ∈ mTb := mTb_at 166 (by decide +kernel) rfl
theorem lfRX2_23 : Cond.fieldLink RX2 23 "StoneCensus$History" "oldest" "I" ∈ mTb := mTb_at 168 (by decide +kernel) rfl
theorem lfRX2_27 : Cond.fieldLink RX2 27 "StoneCensus$History" "behind" "I" ∈ mTb := mTb_at 169 (by decide +kernel) rfl
theorem lfRX2_30 : Cond.fieldLink RX2 30 "StoneCensus$History" "ahead" "I" ∈ mTb := mTb_at 171 (by decide +kernel) rfl
theorem lfRX3_11 : Cond.fieldLink RX3 11 "StoneCensus$Liars" "against" "[[I" ∈ mTb := mTb_at 388 (by decide +kernel) rfl
theorem lfRX3_19 : Cond.fieldLink RX3 19 "StoneCensus$Liars" "sums" "LStoneCensus$Sums;" ∈ mTb := mTb_at 389 (by decide +kernel) rfl
theorem lfRX3_23 : Cond.fieldLink RX3 23 "StoneCensus$Liars" "owed" "[I" ∈ mTb := mTb_at 390 (by decide +kernel) rfl
theorem lfRX3_27 : Cond.fieldLink RX3 27 "StoneCensus$Liars" "tried" "[I" ∈ mTb := mTb_at 391 (by decide +kernel) rfl
theorem lfRX3_30 : Cond.fieldLink RX3 30 "StoneCensus$Liars" "row" "[I" ∈ mTb := mTb_at 392 (by decide +kernel) rfl
theorem lfRX3_33 : Cond.fieldLink RX3 33 "StoneCensus$Liars" "ready" "Z" ∈ mTb := mTb_at 398 (by decide +kernel) rfl
theorem lfRX3_37 : Cond.fieldLink RX3 37 "StoneCensus$Liars" "mask" "I" ∈ mTb := mTb_at 397 (by decide +kernel) rfl
theorem lfRX3_41 : Cond.fieldLink RX3 41 "StoneCensus$Liars" "houses" "I" ∈ mTb := mTb_at 396 (by decide +kernel) rfl
theorem lfRX3_67 : Cond.fieldLink RX3 67 "StoneCensus$Liars" "fewest" "I" ∈ mTb := mTb_at 394 (by decide +kernel) rfl
theorem lfRX3_74 : Cond.fieldLink RX3 74 "StoneCensus$Reports" "count" "I" ∈ mTb := mTb_at 285 (by decide +kernel) rfl
theorem lfRX3_79 : Cond.fieldLink RX3 79 "StoneCensus$Reports" "sets" "[I" ∈ mTb := mTb_at 274 (by decide +kernel) rfl
theorem lfRX3_82 : Cond.fieldLink RX3 82 "StoneCensus$Reports" "leasts" "[I" ∈ mTb := mTb_at 277 (by decide +kernel) rfl
theorem lfRX3_85 : Cond.fieldLink RX3 85 "StoneCensus$Reports" "mosts" "[I" ∈ mTb := mTb_at 280 (by decide +kernel) rfl
theorem lfRX3_88 : Cond.fieldLink RX3 88 "StoneCensus$Sums" "restCounts" "[I" ∈ mTb := mTb_at 322 (by decide +kernel) rfl
theorem lfRX3_91 : Cond.fieldLink RX3 91 "StoneCensus$Sums" "rests" "[[I" ∈ mTb := mTb_at 319 (by decide +kernel) rfl
theorem lfRX3_114 : Cond.fieldLink RX3 114 "StoneCensus$Sums" "heads" "[I" ∈ mTb := mTb_at 317 (by decide +kernel) rfl
theorem lfRX4_9 : Cond.fieldLink RX4 9 "StoneCensus$Reader" "bytes" "[B" ∈ mTb := mTb_at 36 (by decide +kernel) rfl
theorem lfRX4_15 : Cond.fieldLink RX4 15 "StoneCensus$Reader" "length" "I" ∈ mTb := mTb_at 38 (by decide +kernel) rfl
theorem lfRX4_24 : Cond.fieldLink RX4 24 "StoneCensus$Reader" "fault" "I" ∈ mTb := mTb_at 39 (by decide +kernel) rfl
theorem lfRX4_27 : Cond.fieldLink RX4 27 "StoneCensus$Reader" "at" "I" ∈ mTb := mTb_at 45 (by decide +kernel) rfl
theorem lfRX4_33 : Cond.fieldLink RX4 33 "StoneCensus$Reader" "kind" "I" ∈ mTb := mTb_at 43 (by decide +kernel) rfl
theorem lfRX4_51 : Cond.fieldLink RX4 51 "StoneCensus$Sheet" "spit" "LStoneCensus$Formula;" ∈ mTb := mTb_at 116 (by decide +kernel) rfl
theorem lfRX4_60 : Cond.fieldLink RX4 60 "StoneCensus$Sheet" "tax" "LStoneCensus$Formula;" ∈ mTb := mTb_at 118 (by decide +kernel) rfl
theorem lfRX4_64 : Cond.fieldLink RX4 64 "StoneCensus$Sheet" "grow" "LStoneCensus$Formula;" ∈ mTb := mTb_at 120 (by decide +kernel) rfl
theorem lfRX4_79 : Cond.fieldLink RX4 79 "StoneCensus$Sheet" "count" "I" ∈ mTb := mTb_at 126 (by decide +kernel) rfl
theorem lfRX4_101 : Cond.fieldLink RX4 101 "StoneCensus$Sheet" "drawTold" "Z" ∈ mTb := mTb_at 130 (by decide +kernel) rfl
theorem lfRX4_105 : Cond.fieldLink RX4 105 "StoneCensus$Sheet" "draw" "I" ∈ mTb := mTb_at 128 (by decide +kernel) rfl
theorem lfRX4_107 : Cond.fieldLink RX4 107 "StoneCensus$Formula" "told" "Z" ∈ mTb := mTb_at 90 (by decide +kernel) rfl
theorem lfRX4_138 : Cond.fieldLink RX4 138 "StoneCensus$Reader" "sign" "C" ∈ mTb := mTb_at 48 (by decide +kernel) rfl
theorem lfRX4_148 : Cond.fieldLink RX4 148 "StoneCensus$Formula" "units" "I" ∈ mTb := mTb_at 88 (by decide +kernel) rfl
theorem lfRX4_155 : Cond.fieldLink RX4 155 "StoneCensus$Reader" "number" "I" ∈ mTb := mTb_at 46 (by decide +kernel) rfl
theorem lfRX4_164 : Cond.fieldLink RX4 164 "StoneCensus$Reader" "name" "J" ∈ mTb := mTb_at 47 (by decide +kernel) rfl
theorem lfRX4_180 : Cond.fieldLink RX4 180 "StoneCensus$Reader" "start" "I" ∈ mTb := mTb_at 44 (by decide +kernel) rfl
theorem lfRX4_187 : Cond.fieldLink RX4 187 "StoneCensus$Reader" "faultPlace" "I" ∈ mTb := mTb_at 42 (by decide +kernel) rfl
theorem lfRX5_9 : Cond.fieldLink RX5 9 "StoneCensus$Reports" "sets" "[I" ∈ mTb := mTb_at 273 (by decide +kernel) rfl
theorem lfRX5_15 : Cond.fieldLink RX5 15 "StoneCensus$Reports" "leasts" "[I" ∈ mTb := mTb_at 276 (by decide +kernel) rfl
theorem lfRX5_18 : Cond.fieldLink RX5 18 "StoneCensus$Reports" "mosts" "[I" ∈ mTb := mTb_at 279 (by decide +kernel) rfl
theorem lfRX5_21 : Cond.fieldLink RX5 21 "StoneCensus$Reports" "toldAt" "[I" ∈ mTb := mTb_at 282 (by decide +kernel) rfl
theorem lfRX5_24 : Cond.fieldLink RX5 24 "StoneCensus$Reports" "untoldAt" "[I" ∈ mTb := mTb_at 283 (by decide +kernel) rfl
theorem lfRX5_27 : Cond.fieldLink RX5 27 "StoneCensus$Reports" "count" "I" ∈ mTb := mTb_at 284 (by decide +kernel) rfl
theorem lfRX6_9 : Cond.fieldLink RX6 9 "StoneCensus$Road" "places" "[I" ∈ mTb := mTb_at 214 (by decide +kernel) rfl
theorem lfRX6_15 : Cond.fieldLink RX6 15 "StoneCensus$Road" "bowls" "[I" ∈ mTb := mTb_at 215 (by decide +kernel) rfl
theorem lfRX6_18 : Cond.fieldLink RX6 18 "StoneCensus$Road" "who" "[I" ∈ mTb := mTb_at 216 (by decide +kernel) rfl
theorem lfRX6_21 : Cond.fieldLink RX6 21 "StoneCensus$Road" "furthest" "[I" ∈ mTb := mTb_at 218 (by decide +kernel) rfl
theorem lfRX6_24 : Cond.fieldLink RX6 24 "StoneCensus$Road" "counted" "[I" ∈ mTb := mTb_at 219 (by decide +kernel) rfl
theorem lfRX6_27 : Cond.fieldLink RX6 27 "StoneCensus$Road" "beside" "[I" ∈ mTb := mTb_at 220 (by decide +kernel) rfl
theorem lfRX6_30 : Cond.fieldLink RX6 30 "StoneCensus$Road" "steps" "[I" ∈ mTb := mTb_at 221 (by decide +kernel) rfl
theorem lfRX6_33 : Cond.fieldLink RX6 33 "StoneCensus$Road" "knocks" "[I" ∈ mTb := mTb_at 222 (by decide +kernel) rfl
theorem lfRX6_36 : Cond.fieldLink RX6 36 "StoneCensus$Sheet" "count" "I" ∈ mTb := mTb_at 124 (by decide +kernel) rfl
theorem lfRX6_42 : Cond.fieldLink RX6 42 "StoneCensus$Road" "count" "I" ∈ mTb := mTb_at 224 (by decide +kernel) rfl
theorem lfRX6_43 : Cond.fieldLink RX6 43 "StoneCensus$Sheet" "places" "[I" ∈ mTb := mTb_at 107 (by decide +kernel) rfl
theorem lfRX7_9 : Cond.fieldLink RX7 9 "StoneCensus$Seating" "stones" "[I" ∈ mTb := mTb_at 250 (by decide +kernel) rfl
theorem lfRX7_15 : Cond.fieldLink RX7 15 "StoneCensus$Seating" "given" "[I" ∈ mTb := mTb_at 251 (by decide +kernel) rfl
theorem lfRX7_18 : Cond.fieldLink RX7 18 "StoneCensus$Seating" "rests" "[I" ∈ mTb := mTb_at 253 (by decide +kernel) rfl
theorem lfRX7_21 : Cond.fieldLink RX7 21 "StoneCensus$Seating" "other" "[I" ∈ mTb := mTb_at 254 (by decide +kernel) rfl
theorem lfRX7_24 : Cond.fieldLink RX7 24 "StoneCensus$Seating" "count" "I" ∈ mTb := mTb_at 255 (by decide +kernel) rfl
theorem lfRX8_9 : Cond.fieldLink RX8 9 "StoneCensus$Sheet" "names" "[J" ∈ mTb := mTb_at 105 (by decide +kernel) rfl
theorem lfRX8_15 : Cond.fieldLink RX8 15 "StoneCensus$Sheet" "places" "[I" ∈ mTb := mTb_at 106 (by decide +kernel) rfl
theorem lfRX8_19 : Cond.fieldLink RX8 19 "StoneCensus$Sheet" "heads" "[I" ∈ mTb := mTb_at 109 (by decide +kernel) rfl
theorem lfRX8_22 : Cond.fieldLink RX8 22 "StoneCensus$Sheet" "jams" "[I" ∈ mTb := mTb_at 110 (by decide +kernel) rfl
theorem lfRX8_25 : Cond.fieldLink RX8 25 "StoneCensus$Sheet" "habits" "[I" ∈ mTb := mTb_at 113 (by decide +kernel) rfl
theorem lfRX8_31 : Cond.fieldLink RX8 31 "StoneCensus$Sheet" "spit" "LStoneCensus$Formula;" ∈ mTb := mTb_at 115 (by decide +kernel) rfl
theorem lfRX8_35 : Cond.fieldLink RX8 35 "StoneCensus$Sheet" "tax" "LStoneCensus$Formula;" ∈ mTb := mTb_at 117 (by decide +kernel) rfl
theorem lfRX8_38 : Cond.fieldLink RX8 38 "StoneCensus$Sheet" "grow" "LStoneCensus$Formula;" ∈ mTb := mTb_at 119 (by decide +kernel) rfl
theorem lfRX8_41 : Cond.fieldLink RX8 41 "StoneCensus$Sheet" "values" "[I" ∈ mTb := mTb_at 121 (by decide +kernel) rfl
theorem lfRX8_44 : Cond.fieldLink RX8 44 "StoneCensus$Sheet" "count" "I" ∈ mTb := mTb_at 122 (by decide +kernel) rfl
theorem lfRX8_48 : Cond.fieldLink RX8 48 "StoneCensus$Sheet" "draw" "I" ∈ mTb := mTb_at 127 (by decide +kernel) rfl
theorem lfRX8_51 : Cond.fieldLink RX8 51 "StoneCensus$Sheet" "drawTold" "Z" ∈ mTb := mTb_at 129 (by decide +kernel) rfl
theorem lfRX8_58 : Cond.fieldLink RX8 58 "StoneCensus$Formula" "units" "I" ∈ mTb := mTb_at 87 (by decide +kernel) rfl
theorem lfRX8_77 : Cond.fieldLink RX8 77 "StoneCensus$Formula" "told" "Z" ∈ mTb := mTb_at 91 (by decide +kernel) rfl
theorem lfRX9_9 : Cond.fieldLink RX9 9 "StoneCensus$Sums" "heads" "[I" ∈ mTb := mTb_at 315 (by decide +kernel) rfl
theorem lfRX9_17 : Cond.fieldLink RX9 17 "StoneCensus$Sums" "rests" "[[I" ∈ mTb := mTb_at 318 (by decide +kernel) rfl
theorem lfRX9_20 : Cond.fieldLink RX9 20 "StoneCensus$Sums" "restCounts" "[I" ∈ mTb := mTb_at 321 (by decide +kernel) rfl
theorem lfRX10_11 : Cond.fieldLink RX10 11 "StoneCensus$Truths" "tally" "[[I" ∈ mTb := mTb_at 331 (by decide +kernel) rfl
theorem lfRX10_16 : Cond.fieldLink RX10 16 "StoneCensus$Truths" "lows" "[I" ∈ mTb := mTb_at 333 (by decide +kernel) rfl
theorem lfRX10_20 : Cond.fieldLink RX10 20 "StoneCensus$Truths" "highs" "[I" ∈ mTb := mTb_at 334 (by decide +kernel) rfl
theorem lfRX10_26 : Cond.fieldLink RX10 26 "StoneCensus$Truths" "sums" "LStoneCensus$Sums;" ∈ mTb := mTb_at 335 (by decide +kernel) rfl
theorem lfRX10_30 : Cond.fieldLink RX10 30 "StoneCensus$Truths" "codes" "[I" ∈ mTb := mTb_at 336 (by decide +kernel) rfl
theorem lfRX10_33 : Cond.fieldLink RX10 33 "StoneCensus$Truths" "stamps" "[I" ∈ mTb := mTb_at 337 (by decide +kernel) rfl
theorem lfRX10_36 : Cond.fieldLink RX10 36 "StoneCensus$Truths" "ready" "Z" ∈ mTb := mTb_at 347 (by decide +kernel) rfl
theorem lfRX10_40 : Cond.fieldLink RX10 40 "StoneCensus$Truths" "mask" "I" ∈ mTb := mTb_at 343 (by decide +kernel) rfl
theorem lfRX10_44 : Cond.fieldLink RX10 44 "StoneCensus$Truths" "houses" "I" ∈ mTb := mTb_at 342 (by decide +kernel) rfl
theorem lfRX10_47 : Cond.fieldLink RX10 47 "StoneCensus$Truths" "telling" "I" ∈ mTb := mTb_at 344 (by decide +kernel) rfl
theorem lfRX10_58 : Cond.fieldLink RX10 58 "StoneCensus$Truths" "firstFree" "I" ∈ mTb := mTb_at 345 (by decide +kernel) rfl
theorem lfRX10_67 : Cond.fieldLink RX10 67 "StoneCensus$Truths" "ways" "I" ∈ mTb := mTb_at 346 (by decide +kernel) rfl
theorem lfRX10_74 : Cond.fieldLink RX10 74 "StoneCensus$Truths" "total" "I" ∈ mTb := mTb_at 340 (by decide +kernel) rfl
theorem lfRX10_77 : Cond.fieldLink RX10 77 "StoneCensus$Reports" "count" "I" ∈ mTb := mTb_at 286 (by decide +kernel) rfl
theorem lfRX10_82 : Cond.fieldLink RX10 82 "StoneCensus$Reports" "sets" "[I" ∈ mTb := mTb_at 275 (by decide +kernel) rfl
theorem lfRX10_85 : Cond.fieldLink RX10 85 "StoneCensus$Reports" "leasts" "[I" ∈ mTb := mTb_at 278 (by decide +kernel) rfl
theorem lfRX10_93 : Cond.fieldLink RX10 93 "StoneCensus$Reports" "mosts" "[I" ∈ mTb := mTb_at 281 (by decide +kernel) rfl
theorem lfRX10_109 : Cond.fieldLink RX10 109 "StoneCensus$Sums" "restCounts" "[I" ∈ mTb := mTb_at 323 (by decide +kernel) rfl
theorem lfRX10_112 : Cond.fieldLink RX10 112 "StoneCensus$Sums" "rests" "[[I" ∈ mTb := mTb_at 320 (by decide +kernel) rfl
theorem lfRX10_115 : Cond.fieldLink RX10 115 "StoneCensus$Sums" "heads" "[I" ∈ mTb := mTb_at 316 (by decide +kernel) rfl
theorem lfRX10_125 : Cond.fieldLink RX10 125 "StoneCensus$Truths" "codeCount" "I" ∈ mTb := mTb_at 338 (by decide +kernel) rfl
theorem lfRX10_140 : Cond.fieldLink RX10 140 "StoneCensus$Truths" "stamp" "I" ∈ mTb := mTb_at 339 (by decide +kernel) rfl
theorem lfRX12_7 : Cond.fieldLink RX12 7 "StoneCensusModel" "tape" "[I" ∈ mTb := mTb_at 1228 (by decide +kernel) rfl
theorem lfRX12_13 : Cond.fieldLink RX12 13 "StoneCensusModel" "faultPlace" "I" ∈ mTb := mTb_at 1231 (by decide +kernel) rfl
theorem lfRX12_17 : Cond.fieldLink RX12 17 "StoneCensusModel" "nName" "[J" ∈ mTb := mTb_at 1238 (by decide +kernel) rfl
theorem lfRX12_21 : Cond.fieldLink RX12 21 "StoneCensusModel" "nStep" "[I" ∈ mTb := mTb_at 1239 (by decide +kernel) rfl
theorem lfRX12_24 : Cond.fieldLink RX12 24 "StoneCensusModel" "nArg" "[I" ∈ mTb := mTb_at 1240 (by decide +kernel) rfl
theorem lfRX12_27 : Cond.fieldLink RX12 27 "StoneCensusModel" "nMany" "[I" ∈ mTb := mTb_at 1241 (by decide +kernel) rfl
theorem lfRX12_30 : Cond.fieldLink RX12 30 "StoneCensusModel" "step" "[I" ∈ mTb := mTb_at 1242 (by decide +kernel) rfl
theorem lfRX12_33 : Cond.fieldLink RX12 33 "StoneCensusModel" "arg" "[I" ∈ mTb := mTb_at 1243 (by decide +kernel) rfl
theorem lfRX12_36 : Cond.fieldLink RX12 36 "StoneCensusModel" "many" "[I" ∈ mTb := mTb_at 1244 (by decide +kernel) rfl
theorem lfRX12_39 : Cond.fieldLink RX12 39 "StoneCensusModel" "open" "[I" ∈ mTb := mTb_at 1245 (by decide +kernel) rfl
theorem lfRX12_42 : Cond.fieldLink RX12 42 "StoneCensusModel" "values" "[I" ∈ mTb := mTb_at 1246 (by decide +kernel) rfl
theorem lfRX12_45 : Cond.fieldLink RX12 45 "StoneCensusModel" "nHasForm" "[Z" ∈ mTb := mTb_at 1247 (by decide +kernel) rfl
theorem lfRX12_49 : Cond.fieldLink RX12 49 "StoneCensusModel" "hasForm" "[Z" ∈ mTb := mTb_at 1248 (by decide +kernel) rfl
theorem lfRX12_52 : Cond.fieldLink RX12 52 "StoneCensusModel" "asks" "[I" ∈ mTb := mTb_at 1255 (by decide +kernel) rfl
theorem lfRX12_55 : Cond.fieldLink RX12 55 "StoneCensusModel" "nPlace" "[I" ∈ mTb := mTb_at 1256 (by decide +kernel) rfl
theorem lfRX12_58 : Cond.fieldLink RX12 58 "StoneCensusModel" "nHeads" "[I" ∈ mTb := mTb_at 1257 (by decide +kernel) rfl
theorem lfRX12_61 : Cond.fieldLink RX12 61 "StoneCensusModel" "nJam" "[I" ∈ mTb := mTb_at 1258 (by decide +kernel) rfl
theorem lfRX12_64 : Cond.fieldLink RX12 64 "StoneCensusModel" "nHabit" "[I" ∈ mTb := mTb_at 1259 (by decide +kernel) rfl
theorem lfRX12_67 : Cond.fieldLink RX12 67 "StoneCensusModel" "placeOf" "[I" ∈ mTb := mTb_at 1260 (by decide +kernel) rfl
theorem lfRX12_70 : Cond.fieldLink RX12 70 "StoneCensusModel" "jam" "[I" ∈ mTb := mTb_at 1261 (by decide +kernel) rfl
theorem lfRX12_73 : Cond.fieldLink RX12 73 "StoneCensusModel" "habit" "[I" ∈ mTb := mTb_at 1262 (by decide +kernel) rfl
theorem lfRX12_76 : Cond.fieldLink RX12 76 "StoneCensusModel" "now" "[I" ∈ mTb := mTb_at 1267 (by decide +kernel) rfl
theorem lfRX12_79 : Cond.fieldLink RX12 79 "StoneCensusModel" "heads" "[I" ∈ mTb := mTb_at 1268 (by decide +kernel) rfl
theorem lfRX12_82 : Cond.fieldLink RX12 82 "StoneCensusModel" "hidden" "[I" ∈ mTb := mTb_at 1269 (by decide +kernel) rfl
theorem lfRX12_85 : Cond.fieldLink RX12 85 "StoneCensusModel" "bowl" "[I" ∈ mTb := mTb_at 1270 (by decide +kernel) rfl
theorem lfRX12_88 : Cond.fieldLink RX12 88 "StoneCensusModel" "were" "[I" ∈ mTb := mTb_at 1273 (by decide +kernel) rfl
theorem lfRX12_91 : Cond.fieldLink RX12 91 "StoneCensusModel" "taxBy" "[I" ∈ mTb := mTb_at 1276 (by decide +kernel) rfl
theorem lfRX12_94 : Cond.fieldLink RX12 94 "StoneCensusModel" "hides" "[I" ∈ mTb := mTb_at 1277 (by decide +kernel) rfl
theorem lfRX12_97 : Cond.fieldLink RX12 97 "StoneCensusModel" "lies" "[I" ∈ mTb := mTb_at 1278 (by decide +kernel) rfl
theorem lfRX12_100 : Cond.fieldLink RX12 100 "StoneCensusModel" "counter" "[I" ∈ mTb := mTb_at 1281 (by decide +kernel) rfl
theorem lfRX12_103 : Cond.fieldLink RX12 103 "StoneCensusModel" "seat" "[I" ∈ mTb := mTb_at 1282 (by decide +kernel) rfl
theorem lfRX12_106 : Cond.fieldLink RX12 106 "StoneCensusModel" "rests" "[I" ∈ mTb := mTb_at 1283 (by decide +kernel) rfl
theorem lfRX12_109 : Cond.fieldLink RX12 109 "StoneCensusModel" "seatWas" "[I" ∈ mTb := mTb_at 1284 (by decide +kernel) rfl
theorem lfRX12_112 : Cond.fieldLink RX12 112 "StoneCensusModel" "road" "[I" ∈ mTb := mTb_at 1285 (by decide +kernel) rfl
theorem lfRX12_115 : Cond.fieldLink RX12 115 "StoneCensusModel" "fromSet" "[I" ∈ mTb := mTb_at 1286 (by decide +kernel) rfl
theorem lfRX12_118 : Cond.fieldLink RX12 118 "StoneCensusModel" "byKnock" "[I" ∈ mTb := mTb_at 1287 (by decide +kernel) rfl
theorem lfRX12_121 : Cond.fieldLink RX12 121 "StoneCensusModel" "queue" "[I" ∈ mTb := mTb_at 1288 (by decide +kernel) rfl
theorem lfRX12_124 : Cond.fieldLink RX12 124 "StoneCensusModel" "repSet" "[I" ∈ mTb := mTb_at 1289 (by decide +kernel) rfl
theorem lfRX12_127 : Cond.fieldLink RX12 127 "StoneCensusModel" "repLeast" "[I" ∈ mTb := mTb_at 1290 (by decide +kernel) rfl
theorem lfRX12_130 : Cond.fieldLink RX12 130 "StoneCensusModel" "repMost" "[I" ∈ mTb := mTb_at 1291 (by decide +kernel) rfl
theorem lfRX12_133 : Cond.fieldLink RX12 133 "StoneCensusModel" "repTold" "[I" ∈ mTb := mTb_at 1292 (by decide +kernel) rfl
theorem lfRX12_136 : Cond.fieldLink RX12 136 "StoneCensusModel" "repUntold" "[I" ∈ mTb := mTb_at 1293 (by decide +kernel) rfl
theorem lfRX12_139 : Cond.fieldLink RX12 139 "StoneCensusModel" "tally" "[I" ∈ mTb := mTb_at 1296 (by decide +kernel) rfl
theorem lfRX12_143 : Cond.fieldLink RX12 143 "StoneCensusModel" "isSeen" "[Z" ∈ mTb := mTb_at 1298 (by decide +kernel) rfl
theorem lfRX12_146 : Cond.fieldLink RX12 146 "StoneCensusModel" "hasBox" "[Z" ∈ mTb := mTb_at 1299 (by decide +kernel) rfl
theorem lfRX12_149 : Cond.fieldLink RX12 149 "StoneCensusModel" "boxes" "[I" ∈ mTb := mTb_at 1300 (by decide +kernel) rfl
theorem lfRX12_152 : Cond.fieldLink RX12 152 "StoneCensusModel" "taped" "I" ∈ mTb := mTb_at 1229 (by decide +kernel) rfl
theorem lfRX12_159 : Cond.fieldLink RX12 159 "StoneCensusModel" "at" "I" ∈ mTb := mTb_at 1232 (by decide +kernel) rfl
theorem lfRX12_162 : Cond.fieldLink RX12 162 "StoneCensusModel" "size" "I" ∈ mTb := mTb_at 1233 (by decide +kernel) rfl
theorem lfRX12_169 : Cond.fieldLink RX12 169 "StoneCensusModel" "place" "I" ∈ mTb := mTb_at 1235 (by decide +kernel) rfl
theorem lfRX12_172 : Cond.fieldLink RX12 172 "StoneCensusModel" "word" "J" ∈ mTb := mTb_at 1237 (by decide +kernel) rfl
theorem lfRX12_176 : Cond.fieldLink RX12 176 "StoneCensusModel" "number" "I" ∈ mTb := mTb_at 1236 (by decide +kernel) rfl
theorem lfRX12_179 : Cond.fieldLink RX12 179 "StoneCensusModel" "sort" "I" ∈ mTb := mTb_at 1234 (by decide +kernel) rfl
theorem lfRX12_192 : Cond.fieldLink RX12 192 "StoneCensusModel" "fault" "I" ∈ mTb := mTb_at 1230 (by decide +kernel) rfl
theorem lfRX12_251 : Cond.fieldLink RX12 251 "StoneCensusModel" "nHouses" "I" ∈ mTb := mTb_at 1263 (by decide +kernel) rfl
theorem lfRX12_254 : Cond.fieldLink RX12 254 "StoneCensusModel" "form" "I" ∈ mTb := mTb_at 1249 (by decide +kernel) rfl
theorem lfRX12_257 : Cond.fieldLink RX12 257 "StoneCensusModel" "opens" "I" ∈ mTb := mTb_at 1250 (by decide +kernel) rfl
theorem lfRX12_267 : Cond.fieldLink RX12 267 "StoneCensusModel" "deep" "I" ∈ mTb := mTb_at 1254 (by decide +kernel) rfl
theorem lfRX12_270 : Cond.fieldLink RX12 270 "StoneCensusModel" "nUnits" "I" ∈ mTb := mTb_at 1251 (by decide +kernel) rfl
theorem lfRX12_273 : Cond.fieldLink RX12 273 "StoneCensusModel" "ownUnits" "I" ∈ mTb := mTb_at 1253 (by decide +kernel) rfl
theorem lfRX12_331 : Cond.fieldLink RX12 331 "StoneCensusModel" "nHasDraw" "Z" ∈ mTb := mTb_at 1266 (by decide +kernel) rfl
theorem lfRX12_335 : Cond.fieldLink RX12 335 "StoneCensusModel" "nDraw" "I" ∈ mTb := mTb_at 1264 (by decide +kernel) rfl
theorem lfRX12_344 : Cond.fieldLink RX12 344 "StoneCensusModel" "houses" "I" ∈ mTb := mTb_at 1265 (by decide +kernel) rfl
theorem lfRX12_347 : Cond.fieldLink RX12 347 "StoneCensusModel" "units" "I" ∈ mTb := mTb_at 1252 (by decide +kernel) rfl
theorem lfRX12_350 : Cond.fieldLink RX12 350 "StoneCensusModel" "acts" "I" ∈ mTb := mTb_at 1274 (by decide +kernel) rfl
theorem lfRX12_353 : Cond.fieldLink RX12 353 "StoneCensusModel" "undone" "I" ∈ mTb := mTb_at 1275 (by decide +kernel) rfl
theorem lfRX12_356 : Cond.fieldLink RX12 356 "StoneCensusModel" "reports" "I" ∈ mTb := mTb_at 1294 (by decide +kernel) rfl
theorem lfRX12_359 : Cond.fieldLink RX12 359 "StoneCensusModel" "lain" "I" ∈ mTb := mTb_at 1279 (by decide +kernel) rfl
theorem lfRX12_366 : Cond.fieldLink RX12 366 "StoneCensusModel" "year" "I" ∈ mTb := mTb_at 1271 (by decide +kernel) rfl
theorem lfRX12_369 : Cond.fieldLink RX12 369 "StoneCensusModel" "seed" "I" ∈ mTb := mTb_at 1272 (by decide +kernel) rfl
theorem lfRX12_424 : Cond.fieldLink RX12 424 "StoneCensusModel" "members" "I" ∈ mTb := mTb_at 1280 (by decide +kernel) rfl
theorem lfRX12_466 : Cond.fieldLink RX12 466 "StoneCensusModel" "time" "I" ∈ mTb := mTb_at 1295 (by decide +kernel) rfl
theorem lfRX12_473 : Cond.fieldLink RX12 473 "StoneCensusModel" "truthMany" "I" ∈ mTb := mTb_at 1297 (by decide +kernel) rfl
theorem lcRX11_249 : Cond.constant RX11 249 (Int32.ofNat 100000) ∈ mTb := mTb_at 1056 (by decide +kernel) rfl
theorem lcRX1_34 : Cond.constant RX1 34 (Int32.ofNat 1000000) ∈ mTb := mTb_at 853 (by decide +kernel) rfl
theorem lcRX6_77 : Cond.constant RX6 77 (Int32.ofNat 1000000) ∈ mTb := mTb_at 928 (by decide +kernel) rfl
theorem lcRX12_142 : Cond.constant RX12 142 (Int32.ofNat 32768) ∈ mTb := mTb_at 1227 (by decide +kernel) rfl
theorem lcRX12_469 : Cond.constant RX12 469 (Int32.ofNat 100000) ∈ mTb := mTb_at 1840 (by decide +kernel) rfl
theorem lcRJ6_265 : Cond.constant RJ6 265 (Int32.ofNat 1431655765) ∈ mTb := mTb_at 1137 (by decide +kernel) rfl
theorem lcRJ6_266 : Cond.constant RJ6 266 (Int32.ofNat 858993459) ∈ mTb := mTb_at 1138 (by decide +kernel) rfl
theorem lcRJ6_267 : Cond.constant RJ6 267 (Int32.ofNat 252645135) ∈ mTb := mTb_at 1139 (by decide +kernel) rfl
theorem lcRX4_206 : Cond.constantLong RX4 206 (Int64.ofNat 32) ∈ mTb := mTb_at 504 (by decide +kernel) rfl
theorem lcRX12_195 : Cond.constantLong RX12 195 (Int64.ofNat 448546567013) ∈ mTb := mTb_at 1489 (by decide +kernel) rfl
theorem lcRX12_197 : Cond.constantLong RX12 197 (Int64.ofNat 24948) ∈ mTb := mTb_at 1506 (by decide +kernel) rfl
theorem lcRX12_199 : Cond.constantLong RX12 199 (Int64.ofNat 448377480307) ∈ mTb := mTb_at 1507 (by decide +kernel) rfl
theorem lcRX12_201 : Cond.constantLong RX12 201 (Int64.ofNat 6971757) ∈ mTb := mTb_at 1508 (by decide +kernel) rfl
theorem lcRX12_203 : Cond.constantLong RX12 203 (Int64.ofNat 448310438260) ∈ mTb := mTb_at 1509 (by decide +kernel) rfl
theorem lcRX12_205 : Cond.constantLong RX12 205 (Int64.ofNat 1936746868) ∈ mTb := mTb_at 1510 (by decide +kernel) rfl
theorem lcRX12_207 : Cond.constantLong RX12 207 (Int64.ofNat 7627128) ∈ mTb := mTb_at 1511 (by decide +kernel) rfl
theorem lcRX12_209 : Cond.constantLong RX12 209 (Int64.ofNat 1735552887) ∈ mTb := mTb_at 1512 (by decide +kernel) rfl
theorem lcRX12_211 : Cond.constantLong RX12 211 (Int64.ofNat 1685217655) ∈ mTb := mTb_at 1513 (by decide +kernel) rfl
theorem lcRX12_213 : Cond.constantLong RX12 213 (Int64.ofNat 114801865155950) ∈ mTb := mTb_at 1514 (by decide +kernel) rfl
theorem lcRX12_215 : Cond.constantLong RX12 215 (Int64.ofNat 126943922906483) ∈ mTb := mTb_at 1515 (by decide +kernel) rfl
theorem lcRX12_217 : Cond.constantLong RX12 217 (Int64.ofNat 2036687218) ∈ mTb := mTb_at 1516 (by decide +kernel) rfl
theorem lcRX12_219 : Cond.constantLong RX12 219 (Int64.ofNat 6385252) ∈ mTb := mTb_at 1517 (by decide +kernel) rfl
theorem lcRX12_221 : Cond.constantLong RX12 221 (Int64.ofNat 28530) ∈ mTb := mTb_at 1518 (by decide +kernel) rfl
theorem lcRX12_223 : Cond.constantLong RX12 223 (Int64.ofNat 7237492) ∈ mTb := mTb_at 1519 (by decide +kernel) rfl
theorem lnRX11_7 : Cond.classLink RX11 7 RX4 ∈ mTb := mTb_at 30 (by decide +kernel) rfl
theorem lnRX11_16 : Cond.classLink RX11 16 RX8 ∈ mTb := mTb_at 71 (by decide +kernel) rfl
theorem lnRX11_33 : Cond.classLink RX11 33 RX2 ∈ mTb := mTb_at 156 (by decide +kernel) rfl
theorem lnRX11_40 : Cond.classLink RX11 40 RX1 ∈ mTb := mTb_at 187 (by decide +kernel) rfl
theorem lnRX11_47 : Cond.classLink RX11 47 RX6 ∈ mTb := mTb_at 208 (by decide +kernel) rfl
theorem lnRX11_54 : Cond.classLink RX11 54 RX7 ∈ mTb := mTb_at 244 (by decide +kernel) rfl
theorem lnRX11_61 : Cond.classLink RX11 61 RX5 ∈ mTb := mTb_at 267 (by decide +kernel) rfl
theorem lnRX11_68 : Cond.classLink RX11 68 RX10 ∈ mTb := mTb_at 301 (by decide +kernel) rfl
theorem lnRX11_75 : Cond.classLink RX11 75 RX3 ∈ mTb := mTb_at 379 (by decide +kernel) rfl
theorem lnRX1_9 : Cond.classLink RX1 9 "[[I" ∈ mTb := mTb_at 193 (by decide +kernel) rfl
theorem lnRX2_9 : Cond.classLink RX2 9 "[[I" ∈ mTb := mTb_at 162 (by decide +kernel) rfl
theorem lnRX3_9 : Cond.classLink RX3 9 "[[I" ∈ mTb := mTb_at 385 (by decide +kernel) rfl
theorem lnRX3_16 : Cond.classLink RX3 16 RX9 ∈ mTb := mTb_at 386 (by decide +kernel) rfl
theorem lnRX8_28 : Cond.classLink RX8 28 RX0 ∈ mTb := mTb_at 77 (by decide +kernel) rfl
theorem lnRX9_15 : Cond.classLink RX9 15 "[[I" ∈ mTb := mTb_at 314 (by decide +kernel) rfl
theorem lnRX10_9 : Cond.classLink RX10 9 "[[I" ∈ mTb := mTb_at 307 (by decide +kernel) rfl
theorem lnRX10_23 : Cond.classLink RX10 23 RX9 ∈ mTb := mTb_at 308 (by decide +kernel) rfl
theorem lnRL_7 : Cond.classLink RL 7 RX11 ∈ mTb := mTb_at 22 (by decide +kernel) rfl
theorem lnRL_10 : Cond.classLink RL 10 RX12 ∈ mTb := mTb_at 1221 (by decide +kernel) rfl
theorem lmRX11_1 : Cond.methodLink RX11 1 objectInit ∈ mTb := mTb_at 27 (by decide +kernel) rfl
theorem lmRX11_89 : Cond.methodLink RX11 89 yX4_append ∈ mTb := mTb_at 468 (by decide +kernel) rfl
theorem lmRX11_93 : Cond.methodLink RX11 93 yX4_readAll ∈ mTb := mTb_at 480 (by decide +kernel) rfl
theorem lmRX11_97 : Cond.methodLink RX11 97 yX8_begin ∈ mTb := mTb_at 664 (by decide +kernel) rfl
theorem lmRX11_101 : Cond.methodLink RX11 101 yX2_startFrom ∈ mTb := mTb_at 674 (by decide +kernel) rfl
theorem lmRX11_104 : Cond.methodLink RX11 104 yX2_emptyBoxes ∈ mTb := mTb_at 683 (by decide +kernel) rfl
theorem lmRX11_110 : Cond.methodLink RX11 110 yX10_forget ∈ mTb := mTb_at 687 (by decide +kernel) rfl
theorem lmRX11_113 : Cond.methodLink RX11 113 yX3_forget ∈ mTb := mTb_at 691 (by decide +kernel) rfl
theorem lmRX11_124 : Cond.methodLink RX11 124 yX11_isHouse ∈ mTb := mTb_at 703 (by decide +kernel) rfl
theorem lmRX11_137 : Cond.methodLink RX11 137 yX8_stonesOf ∈ mTb := mTb_at 707 (by decide +kernel) rfl
theorem lmRX11_141 : Cond.methodLink RX11 141 yX8_taxOf ∈ mTb := mTb_at 738 (by decide +kernel) rfl
theorem lmRX11_145 : Cond.methodLink RX11 145 yX11_sumOf ∈ mTb := mTb_at 746 (by decide +kernel) rfl
theorem lmRX11_149 : Cond.methodLink RX11 149 yX2_keep ∈ mTb := mTb_at 755 (by decide +kernel) rfl
theorem lmRX11_152 : Cond.methodLink RX11 152 yX11_leaveOne ∈ mTb := mTb_at 763 (by decide +kernel) rfl
theorem lmRX11_155 : Cond.methodLink RX11 155 yX8_passSummer ∈ mTb := mTb_at 783 (by decide +kernel) rfl
theorem lmRX11_158 : Cond.methodLink RX11 158 yX11_allBowls ∈ mTb := mTb_at 797 (by decide +kernel) rfl
theorem lmRX11_162 : Cond.methodLink RX11 162 yX2_stepBack ∈ mTb := mTb_at 805 (by decide +kernel) rfl
theorem lmRX11_166 : Cond.methodLink RX11 166 yX2_stepOn ∈ mTb := mTb_at 817 (by decide +kernel) rfl
theorem lmRX11_169 : Cond.methodLink RX11 169 yX11_isWithin ∈ mTb := mTb_at 829 (by decide +kernel) rfl
theorem lmRX11_173 : Cond.methodLink RX11 173 yX11_foresee ∈ mTb := mTb_at 832 (by decide +kernel) rfl
theorem lmRX11_176 : Cond.methodLink RX11 176 yX1_look ∈ mTb := mTb_at 845 (by decide +kernel) rfl
theorem lmRX11_180 : Cond.methodLink RX11 180 yX1_choose ∈ mTb := mTb_at 855 (by decide +kernel) rfl
theorem lmRX11_186 : Cond.methodLink RX11 186 yX11_lay ∈ mTb := mTb_at 877 (by decide +kernel) rfl
theorem lmRX11_190 : Cond.methodLink RX11 190 yX1_leastTax ∈ mTb := mTb_at 885 (by decide +kernel) rfl
theorem lmRX11_194 : Cond.methodLink RX11 194 yX6_look ∈ mTb := mTb_at 893 (by decide +kernel) rfl
theorem lmRX11_195 : Cond.methodLink RX11 195 yX6_fewestBy ∈ mTb := mTb_at 899 (by decide +kernel) rfl
theorem lmRX11_201 : Cond.methodLink RX11 201 yX6_firstNoon ∈ mTb := mTb_at 920 (by decide +kernel) rfl
theorem lmRX11_204 : Cond.methodLink RX11 204 yX7_look ∈ mTb := mTb_at 942 (by decide +kernel) rfl
theorem lmRX11_206 : Cond.methodLink RX11 206 yX7_share ∈ mTb := mTb_at 947 (by decide +kernel) rfl
theorem lmRX11_213 : Cond.methodLink RX11 213 yX7_changedByOne ∈ mTb := mTb_at 967 (by decide +kernel) rfl
theorem lmRX11_217 : Cond.methodLink RX11 217 yX7_firstLoser ∈ mTb := mTb_at 980 (by decide +kernel) rfl
theorem lmRX11_220 : Cond.methodLink RX11 220 yX11_sum ∈ mTb := mTb_at 988 (by decide +kernel) rfl
theorem lmRX11_223 : Cond.methodLink RX11 223 arraycopyName ∈ mTb := mTb_at 836 (by decide +kernel) rfl
theorem lmRX11_229 : Cond.methodLink RX11 229 yX11_fullest ∈ mTb := mTb_at 989 (by decide +kernel) rfl
theorem lmRX11_232 : Cond.methodLink RX11 232 yX6_planKnocks ∈ mTb := mTb_at 997 (by decide +kernel) rfl
theorem lmRX11_241 : Cond.methodLink RX11 241 yX5_add ∈ mTb := mTb_at 1040 (by decide +kernel) rfl
theorem lmRX11_245 : Cond.methodLink RX11 245 yX5_takeBack ∈ mTb := mTb_at 1048 (by decide +kernel) rfl
theorem lmRX11_250 : Cond.methodLink RX11 250 yX11_learn ∈ mTb := mTb_at 1061 (by decide +kernel) rfl
theorem lmRX11_256 : Cond.methodLink RX11 256 yX10_fewestIn ∈ mTb := mTb_at 1104 (by decide +kernel) rfl
theorem lmRX11_259 : Cond.methodLink RX11 259 yX10_mostIn ∈ mTb := mTb_at 1108 (by decide +kernel) rfl
theorem lmRX11_262 : Cond.methodLink RX11 262 yX5_countingAt ∈ mTb := mTb_at 1065 (by decide +kernel) rfl
theorem lmRX11_265 : Cond.methodLink RX11 265 yX3_learn ∈ mTb := mTb_at 1116 (by decide +kernel) rfl
theorem lmRX11_274 : Cond.methodLink RX11 274 yX10_bestToSee ∈ mTb := mTb_at 1155 (by decide +kernel) rfl
theorem lmRX11_277 : Cond.methodLink RX11 277 yX10_leftBySeeing ∈ mTb := mTb_at 1163 (by decide +kernel) rfl
theorem lmRX11_280 : Cond.methodLink RX11 280 yX10_tellingSet ∈ mTb := mTb_at 1168 (by decide +kernel) rfl
theorem lmRX11_283 : Cond.methodLink RX11 283 yJ6_bitCount_0f7a4 ∈ mTb := mTb_at 1189 (by decide +kernel) rfl
theorem lmRX11_292 : Cond.methodLink RX11 292 yX11_commonDivisor ∈ mTb := mTb_at 1194 (by decide +kernel) rfl
theorem lmRX11_295 : Cond.methodLink RX11 295 yX2_fillBox ∈ mTb := mTb_at 1201 (by decide +kernel) rfl
theorem lmRX11_303 : Cond.methodLink RX11 303 yX2_openBox ∈ mTb := mTb_at 1209 (by decide +kernel) rfl
theorem lmRX11_312 : Cond.methodLink RX11 312 yX8_unitsOfLaws ∈ mTb := mTb_at 1217 (by decide +kernel) rfl
theorem lmRX11_315 : Cond.methodLink RX11 315 yJ9_min_7cf53 ∈ mTb := mTb_at 718 (by decide +kernel) rfl
theorem lmRX11_320 : Cond.methodLink RX11 320 yJ9_max_7cf53 ∈ mTb := mTb_at 721 (by decide +kernel) rfl
theorem lmRX11_323 : Cond.methodLink RX11 323 yX11_house ∈ mTb := mTb_at 750 (by decide +kernel) rfl
theorem lmRX11_326 : Cond.methodLink RX11 326 yX10_learn ∈ mTb := mTb_at 1069 (by decide +kernel) rfl
theorem lmRX0_3 : Cond.methodLink RX0 3 objectInit ∈ mTb := mTb_at 82 (by decide +kernel) rfl
theorem lmRX0_29 : Cond.methodLink RX0 29 yX0_leaf ∈ mTb := mTb_at 732 (by decide +kernel) rfl
theorem lmRX0_33 : Cond.methodLink RX0 33 yX0_join ∈ mTb := mTb_at 735 (by decide +kernel) rfl
theorem lmRX1_3 : Cond.methodLink RX1 3 objectInit ∈ mTb := mTb_at 192 (by decide +kernel) rfl
theorem lmRX1_30 : Cond.methodLink RX1 30 yX1_taxHiding ∈ mTb := mTb_at 849 (by decide +kernel) rfl
theorem lmRX1_35 : Cond.methodLink RX1 35 yX8_stonesHiding ∈ mTb := mTb_at 852 (by decide +kernel) rfl
theorem lmRX1_42 : Cond.methodLink RX1 42 yX8_taxOf ∈ mTb := mTb_at 854 (by decide +kernel) rfl
theorem lmRX1_46 : Cond.methodLink RX1 46 yJ9_min_7cf53 ∈ mTb := mTb_at 868 (by decide +kernel) rfl
theorem lmRX1_52 : Cond.methodLink RX1 52 yX1_weighFromTheEnd ∈ mTb := mTb_at 859 (by decide +kernel) rfl
theorem lmRX1_55 : Cond.methodLink RX1 55 yX1_pickFirst ∈ mTb := mTb_at 869 (by decide +kernel) rfl
theorem lmRX1_59 : Cond.methodLink RX1 59 yJ7_fill_53178 ∈ mTb := mTb_at 863 (by decide +kernel) rfl
theorem lmRX1_65 : Cond.methodLink RX1 65 yX1_cheapestFrom ∈ mTb := mTb_at 864 (by decide +kernel) rfl
theorem lmRX1_68 : Cond.methodLink RX1 68 yX1_firstThatFits ∈ mTb := mTb_at 873 (by decide +kernel) rfl
theorem lmRX2_3 : Cond.methodLink RX2 3 objectInit ∈ mTb := mTb_at 161 (by decide +kernel) rfl
theorem lmRX2_33 : Cond.methodLink RX2 33 yX2_copyFrom ∈ mTb := mTb_at 678 (by decide +kernel) rfl
theorem lmRX2_37 : Cond.methodLink RX2 37 yX2_copyTo ∈ mTb := mTb_at 809 (by decide +kernel) rfl
theorem lmRX2_40 : Cond.methodLink RX2 40 arraycopyName ∈ mTb := mTb_at 682 (by decide +kernel) rfl
theorem lmRX3_3 : Cond.methodLink RX3 3 objectInit ∈ mTb := mTb_at 384 (by decide +kernel) rfl
theorem lmRX3_44 : Cond.methodLink RX3 44 yJ7_fill_53178 ∈ mTb := mTb_at 1120 (by decide +kernel) rfl
theorem lmRX3_50 : Cond.methodLink RX3 50 yX3_takeReports ∈ mTb := mTb_at 1121 (by decide +kernel) rfl
theorem lmRX3_54 : Cond.methodLink RX3 54 yX9_list ∈ mTb := mTb_at 1125 (by decide +kernel) rfl
theorem lmRX3_58 : Cond.methodLink RX3 58 yX3_countOwed ∈ mTb := mTb_at 1126 (by decide +kernel) rfl
theorem lmRX3_61 : Cond.methodLink RX3 61 yJ6_bitCount_0f7a4 ∈ mTb := mTb_at 1134 (by decide +kernel) rfl
theorem lmRX3_70 : Cond.methodLink RX3 70 yX3_searchFrom ∈ mTb := mTb_at 1141 (by decide +kernel) rfl
theorem lmRX3_94 : Cond.methodLink RX3 94 yX3_leastAgainst ∈ mTb := mTb_at 1130 (by decide +kernel) rfl
theorem lmRX3_97 : Cond.methodLink RX3 97 yJ9_min_7cf53 ∈ mTb := mTb_at 1140 (by decide +kernel) rfl
theorem lmRX3_102 : Cond.methodLink RX3 102 arraycopyName ∈ mTb := mTb_at 1145 (by decide +kernel) rfl
theorem lmRX3_108 : Cond.methodLink RX3 108 yX3_againstWith ∈ mTb := mTb_at 1146 (by decide +kernel) rfl
theorem lmRX3_111 : Cond.methodLink RX3 111 yX9_setHeads ∈ mTb := mTb_at 1150 (by decide +kernel) rfl
theorem lmRX4_3 : Cond.methodLink RX4 3 objectInit ∈ mTb := mTb_at 35 (by decide +kernel) rfl
theorem lmRX4_19 : Cond.methodLink RX4 19 yX8_clear ∈ mTb := mTb_at 484 (by decide +kernel) rfl
theorem lmRX4_30 : Cond.methodLink RX4 30 yX4_advance ∈ mTb := mTb_at 492 (by decide +kernel) rfl
theorem lmRX4_36 : Cond.methodLink RX4 36 yX4_readLine ∈ mTb := mTb_at 521 (by decide +kernel) rfl
theorem lmRX4_42 : Cond.methodLink RX4 42 yX4_isWord ∈ mTb := mTb_at 526 (by decide +kernel) rfl
theorem lmRX4_46 : Cond.methodLink RX4 46 yX4_readHouse ∈ mTb := mTb_at 578 (by decide +kernel) rfl
theorem lmRX4_54 : Cond.methodLink RX4 54 yX4_readLaw ∈ mTb := mTb_at 616 (by decide +kernel) rfl
theorem lmRX4_68 : Cond.methodLink RX4 68 yX4_readDraw ∈ mTb := mTb_at 660 (by decide +kernel) rfl
theorem lmRX4_71 : Cond.methodLink RX4 71 yX4_refuse ∈ mTb := mTb_at 505 (by decide +kernel) rfl
theorem lmRX4_75 : Cond.methodLink RX4 75 yX4_takeSign ∈ mTb := mTb_at 656 (by decide +kernel) rfl
theorem lmRX4_82 : Cond.methodLink RX4 82 yX4_takeName ∈ mTb := mTb_at 582 (by decide +kernel) rfl
theorem lmRX4_87 : Cond.methodLink RX4 87 yX4_takeTold ∈ mTb := mTb_at 608 (by decide +kernel) rfl
theorem lmRX4_97 : Cond.methodLink RX4 97 yX8_addHouse ∈ mTb := mTb_at 612 (by decide +kernel) rfl
theorem lmRX4_112 : Cond.methodLink RX4 112 yX4_readEither ∈ mTb := mTb_at 620 (by decide +kernel) rfl
theorem lmRX4_116 : Cond.methodLink RX4 116 yX4_readBoth ∈ mTb := mTb_at 624 (by decide +kernel) rfl
theorem lmRX4_121 : Cond.methodLink RX4 121 yX0_add ∈ mTb := mTb_at 632 (by decide +kernel) rfl
theorem lmRX4_124 : Cond.methodLink RX4 124 yX4_readOne ∈ mTb := mTb_at 628 (by decide +kernel) rfl
theorem lmRX4_131 : Cond.methodLink RX4 131 yX4_readSum ∈ mTb := mTb_at 636 (by decide +kernel) rfl
theorem lmRX4_134 : Cond.methodLink RX4 134 yX4_isSign ∈ mTb := mTb_at 652 (by decide +kernel) rfl
theorem lmRX4_142 : Cond.methodLink RX4 142 yX4_readTerm ∈ mTb := mTb_at 640 (by decide +kernel) rfl
theorem lmRX4_145 : Cond.methodLink RX4 145 yX4_readUnit ∈ mTb := mTb_at 644 (by decide +kernel) rfl
theorem lmRX4_151 : Cond.methodLink RX4 151 yX4_valueNamed ∈ mTb := mTb_at 648 (by decide +kernel) rfl
theorem lmRX4_168 : Cond.methodLink RX4 168 yX4_standsForItself ∈ mTb := mTb_at 586 (by decide +kernel) rfl
theorem lmRX4_172 : Cond.methodLink RX4 172 yX8_hasName ∈ mTb := mTb_at 604 (by decide +kernel) rfl
theorem lmRX4_176 : Cond.methodLink RX4 176 yJ0_length_8abf5 ∈ mTb := mTb_at 530 (by decide +kernel) rfl
theorem lmRX4_183 : Cond.methodLink RX4 183 yJ0_charAt_5068e ∈ mTb := mTb_at 540 (by decide +kernel) rfl
theorem lmRX4_190 : Cond.methodLink RX4 190 yX4_isLetterAt ∈ mTb := mTb_at 496 (by decide +kernel) rfl
theorem lmRX4_194 : Cond.methodLink RX4 194 yX4_scanWord ∈ mTb := mTb_at 500 (by decide +kernel) rfl
theorem lmRX4_197 : Cond.methodLink RX4 197 yX4_isDigitAt ∈ mTb := mTb_at 509 (by decide +kernel) rfl
theorem lmRX4_200 : Cond.methodLink RX4 200 yX4_scanNumber ∈ mTb := mTb_at 513 (by decide +kernel) rfl
theorem lmRX4_203 : Cond.methodLink RX4 203 yX4_scanSign ∈ mTb := mTb_at 517 (by decide +kernel) rfl
theorem lmRX5_3 : Cond.methodLink RX5 3 objectInit ∈ mTb := mTb_at 272 (by decide +kernel) rfl
theorem lmRX6_3 : Cond.methodLink RX6 3 objectInit ∈ mTb := mTb_at 213 (by decide +kernel) rfl
theorem lmRX6_44 : Cond.methodLink RX6 44 arraycopyName ∈ mTb := mTb_at 897 (by decide +kernel) rfl
theorem lmRX6_50 : Cond.methodLink RX6 50 yJ7_fill_53178 ∈ mTb := mTb_at 898 (by decide +kernel) rfl
theorem lmRX6_56 : Cond.methodLink RX6 56 yX6_sendFrom ∈ mTb := mTb_at 903 (by decide +kernel) rfl
theorem lmRX6_60 : Cond.methodLink RX6 60 yX6_soonestFrom ∈ mTb := mTb_at 924 (by decide +kernel) rfl
theorem lmRX6_64 : Cond.methodLink RX6 64 yX6_busyWith ∈ mTb := mTb_at 907 (by decide +kernel) rfl
theorem lmRX6_68 : Cond.methodLink RX6 68 yJ9_max_7cf53 ∈ mTb := mTb_at 911 (by decide +kernel) rfl
theorem lmRX6_73 : Cond.methodLink RX6 73 yX6_putBack ∈ mTb := mTb_at 912 (by decide +kernel) rfl
theorem lmRX6_78 : Cond.methodLink RX6 78 yJ9_min_7cf53 ∈ mTb := mTb_at 929 (by decide +kernel) rfl
theorem lmRX6_81 : Cond.methodLink RX6 81 yX6_findNeighbours ∈ mTb := mTb_at 1001 (by decide +kernel) rfl
theorem lmRX6_84 : Cond.methodLink RX6 84 yX6_countSteps ∈ mTb := mTb_at 1012 (by decide +kernel) rfl
theorem lmRX6_87 : Cond.methodLink RX6 87 yX6_firstOnTheWay ∈ mTb := mTb_at 1024 (by decide +kernel) rfl
theorem lmRX6_91 : Cond.methodLink RX6 91 yX6_afterKnock ∈ mTb := mTb_at 1020 (by decide +kernel) rfl
theorem lmRX6_94 : Cond.methodLink RX6 94 yX6_isBefore ∈ mTb := mTb_at 1005 (by decide +kernel) rfl
theorem lmRX6_98 : Cond.methodLink RX6 98 yX6_bitOf ∈ mTb := mTb_at 1009 (by decide +kernel) rfl
theorem lmRX6_101 : Cond.methodLink RX6 101 yX6_fewestFrom ∈ mTb := mTb_at 1016 (by decide +kernel) rfl
theorem lmRX7_3 : Cond.methodLink RX7 3 objectInit ∈ mTb := mTb_at 249 (by decide +kernel) rfl
theorem lmRX7_28 : Cond.methodLink RX7 28 arraycopyName ∈ mTb := mTb_at 946 (by decide +kernel) rfl
theorem lmRX7_34 : Cond.methodLink RX7 34 yX7_shareByRests ∈ mTb := mTb_at 951 (by decide +kernel) rfl
theorem lmRX7_38 : Cond.methodLink RX7 38 yX7_shareOneByOne ∈ mTb := mTb_at 959 (by decide +kernel) rfl
theorem lmRX7_42 : Cond.methodLink RX7 42 yX7_share ∈ mTb := mTb_at 971 (by decide +kernel) rfl
theorem lmRX7_45 : Cond.methodLink RX7 45 yX7_isChanged ∈ mTb := mTb_at 972 (by decide +kernel) rfl
theorem lmRX7_49 : Cond.methodLink RX7 49 yX7_greatestRest ∈ mTb := mTb_at 955 (by decide +kernel) rfl
theorem lmRX8_3 : Cond.methodLink RX8 3 objectInit ∈ mTb := mTb_at 76 (by decide +kernel) rfl
theorem lmRX8_55 : Cond.methodLink RX8 55 yX0_clear ∈ mTb := mTb_at 488 (by decide +kernel) rfl
theorem lmRX8_61 : Cond.methodLink RX8 61 yJ7_fill_53178 ∈ mTb := mTb_at 668 (by decide +kernel) rfl
theorem lmRX8_67 : Cond.methodLink RX8 67 arraycopyName ∈ mTb := mTb_at 671 (by decide +kernel) rfl
theorem lmRX8_73 : Cond.methodLink RX8 73 yX8_stonesHiding ∈ mTb := mTb_at 711 (by decide +kernel) rfl
theorem lmRX8_84 : Cond.methodLink RX8 84 yX8_setValues ∈ mTb := mTb_at 724 (by decide +kernel) rfl
theorem lmRX8_88 : Cond.methodLink RX8 88 yX0_work ∈ mTb := mTb_at 728 (by decide +kernel) rfl
theorem lmRX8_92 : Cond.methodLink RX8 92 yX8_stonesOf ∈ mTb := mTb_at 787 (by decide +kernel) rfl
theorem lmRX8_96 : Cond.methodLink RX8 96 yX8_sendMagpie ∈ mTb := mTb_at 788 (by decide +kernel) rfl
theorem lmRX8_100 : Cond.methodLink RX8 100 yX8_growHouse ∈ mTb := mTb_at 793 (by decide +kernel) rfl
theorem lmRX8_103 : Cond.methodLink RX8 103 yJ9_min_7cf53 ∈ mTb := mTb_at 792 (by decide +kernel) rfl
theorem lmRX9_3 : Cond.methodLink RX9 3 objectInit ∈ mTb := mTb_at 313 (by decide +kernel) rfl
theorem lmRX10_3 : Cond.methodLink RX10 3 objectInit ∈ mTb := mTb_at 306 (by decide +kernel) rfl
theorem lmRX10_50 : Cond.methodLink RX10 50 yX10_takeReports ∈ mTb := mTb_at 1073 (by decide +kernel) rfl
theorem lmRX10_54 : Cond.methodLink RX10 54 yX9_list ∈ mTb := mTb_at 1080 (by decide +kernel) rfl
theorem lmRX10_61 : Cond.methodLink RX10 61 yJ7_fill_53178 ∈ mTb := mTb_at 1077 (by decide +kernel) rfl
theorem lmRX10_70 : Cond.methodLink RX10 70 yX10_countFrom ∈ mTb := mTb_at 1084 (by decide +kernel) rfl
theorem lmRX10_88 : Cond.methodLink RX10 88 yJ9_max_7cf53 ∈ mTb := mTb_at 1078 (by decide +kernel) rfl
theorem lmRX10_96 : Cond.methodLink RX10 96 yJ9_min_7cf53 ∈ mTb := mTb_at 1079 (by decide +kernel) rfl
theorem lmRX10_99 : Cond.methodLink RX10 99 yX10_highest ∈ mTb := mTb_at 1088 (by decide +kernel) rfl
theorem lmRX10_102 : Cond.methodLink RX10 102 yX10_lowest ∈ mTb := mTb_at 1092 (by decide +kernel) rfl
theorem lmRX10_105 : Cond.methodLink RX10 105 yX9_setHeads ∈ mTb := mTb_at 1096 (by decide +kernel) rfl
theorem lmRX10_118 : Cond.methodLink RX10 118 yX10_leftBySeeing ∈ mTb := mTb_at 1159 (by decide +kernel) rfl
theorem lmRX10_121 : Cond.methodLink RX10 121 yX10_findTelling ∈ mTb := mTb_at 1172 (by decide +kernel) rfl
theorem lmRX10_128 : Cond.methodLink RX10 128 yX10_gatherFrom ∈ mTb := mTb_at 1176 (by decide +kernel) rfl
theorem lmRX10_131 : Cond.methodLink RX10 131 yJ6_bitCount_0f7a4 ∈ mTb := mTb_at 1180 (by decide +kernel) rfl
theorem lmRX10_136 : Cond.methodLink RX10 136 yX10_tellsApart ∈ mTb := mTb_at 1181 (by decide +kernel) rfl
theorem lmRX10_143 : Cond.methodLink RX10 143 yX10_partOf ∈ mTb := mTb_at 1185 (by decide +kernel) rfl
theorem lmRL_9 : Cond.methodLink RL 9 yX11_init ∈ mTb := mTb_at 24 (by decide +kernel) rfl
theorem lmRL_12 : Cond.methodLink RL 12 yX12_init ∈ mTb := mTb_at 1223 (by decide +kernel) rfl
theorem lmRL_13 : Cond.methodLink RL 13 yX11_feed ∈ mTb := mTb_at 464 (by decide +kernel) rfl
theorem lmRL_17 : Cond.methodLink RL 17 yX12_feed ∈ mTb := mTb_at 1448 (by decide +kernel) rfl
theorem lmRL_18 : Cond.methodLink RL 18 yX11_end ∈ mTb := mTb_at 472 (by decide +kernel) rfl
theorem lmRL_22 : Cond.methodLink RL 22 yX12_end ∈ mTb := mTb_at 1456 (by decide +kernel) rfl
theorem lmRL_23 : Cond.methodLink RL 23 yX11_province ∈ mTb := mTb_at 476 (by decide +kernel) rfl
theorem lmRL_27 : Cond.methodLink RL 27 yX12_province ∈ mTb := mTb_at 1460 (by decide +kernel) rfl
theorem lmRL_28 : Cond.methodLink RL 28 yX11_fault ∈ mTb := mTb_at 695 (by decide +kernel) rfl
theorem lmRL_31 : Cond.methodLink RL 31 yX12_fault ∈ mTb := mTb_at 1595 (by decide +kernel) rfl
theorem lmRL_32 : Cond.methodLink RL 32 yX11_house ∈ mTb := mTb_at 699 (by decide +kernel) rfl
theorem lmRL_36 : Cond.methodLink RL 36 yX12_house ∈ mTb := mTb_at 1599 (by decide +kernel) rfl
theorem lmRL_37 : Cond.methodLink RL 37 yX11_sum ∈ mTb := mTb_at 742 (by decide +kernel) rfl
theorem lmRL_40 : Cond.methodLink RL 40 yX12_sum ∈ mTb := mTb_at 1643 (by decide +kernel) rfl
theorem lmRL_41 : Cond.methodLink RL 41 yX11_comes ∈ mTb := mTb_at 751 (by decide +kernel) rfl
theorem lmRL_44 : Cond.methodLink RL 44 yX12_comes ∈ mTb := mTb_at 1651 (by decide +kernel) rfl
theorem lmRL_45 : Cond.methodLink RL 45 yX11_goes ∈ mTb := mTb_at 759 (by decide +kernel) rfl
theorem lmRL_48 : Cond.methodLink RL 48 yX12_goes ∈ mTb := mTb_at 1659 (by decide +kernel) rfl
theorem lmRL_49 : Cond.methodLink RL 49 yX11_moves ∈ mTb := mTb_at 767 (by decide +kernel) rfl
theorem lmRL_52 : Cond.methodLink RL 52 yX12_moves ∈ mTb := mTb_at 1675 (by decide +kernel) rfl
theorem lmRL_53 : Cond.methodLink RL 53 yX11_hide ∈ mTb := mTb_at 771 (by decide +kernel) rfl
theorem lmRL_56 : Cond.methodLink RL 56 yX12_hide ∈ mTb := mTb_at 1679 (by decide +kernel) rfl
theorem lmRL_57 : Cond.methodLink RL 57 yX11_steal ∈ mTb := mTb_at 775 (by decide +kernel) rfl
theorem lmRL_60 : Cond.methodLink RL 60 yX12_steal ∈ mTb := mTb_at 1683 (by decide +kernel) rfl
theorem lmRL_61 : Cond.methodLink RL 61 yX11_summer ∈ mTb := mTb_at 779 (by decide +kernel) rfl
theorem lmRL_64 : Cond.methodLink RL 64 yX12_summer ∈ mTb := mTb_at 1687 (by decide +kernel) rfl
theorem lmRL_65 : Cond.methodLink RL 65 yX11_undo ∈ mTb := mTb_at 801 (by decide +kernel) rfl
theorem lmRL_69 : Cond.methodLink RL 69 yX12_undo ∈ mTb := mTb_at 1699 (by decide +kernel) rfl
theorem lmRL_70 : Cond.methodLink RL 70 yX11_redo ∈ mTb := mTb_at 813 (by decide +kernel) rfl
theorem lmRL_73 : Cond.methodLink RL 73 yX12_redo ∈ mTb := mTb_at 1707 (by decide +kernel) rfl
theorem lmRL_74 : Cond.methodLink RL 74 yX11_falses ∈ mTb := mTb_at 821 (by decide +kernel) rfl
theorem lmRL_77 : Cond.methodLink RL 77 yX12_falses ∈ mTb := mTb_at 1711 (by decide +kernel) rfl
theorem lmRL_78 : Cond.methodLink RL 78 yX11_will ∈ mTb := mTb_at 825 (by decide +kernel) rfl
theorem lmRL_81 : Cond.methodLink RL 81 yX12_will ∈ mTb := mTb_at 1715 (by decide +kernel) rfl
theorem lmRL_82 : Cond.methodLink RL 82 yX11_bowls ∈ mTb := mTb_at 837 (by decide +kernel) rfl
theorem lmRL_85 : Cond.methodLink RL 85 yX12_bowls ∈ mTb := mTb_at 1723 (by decide +kernel) rfl
theorem lmRL_86 : Cond.methodLink RL 86 yX11_leave ∈ mTb := mTb_at 841 (by decide +kernel) rfl
theorem lmRL_89 : Cond.methodLink RL 89 yX12_leave ∈ mTb := mTb_at 1727 (by decide +kernel) rfl
theorem lmRL_90 : Cond.methodLink RL 90 yX11_least ∈ mTb := mTb_at 881 (by decide +kernel) rfl
theorem lmRL_93 : Cond.methodLink RL 93 yX12_least ∈ mTb := mTb_at 1743 (by decide +kernel) rfl
theorem lmRL_94 : Cond.methodLink RL 94 yX11_rounds ∈ mTb := mTb_at 889 (by decide +kernel) rfl
theorem lmRL_97 : Cond.methodLink RL 97 yX12_rounds ∈ mTb := mTb_at 1747 (by decide +kernel) rfl
theorem lmRL_98 : Cond.methodLink RL 98 yX11_noon ∈ mTb := mTb_at 916 (by decide +kernel) rfl
theorem lmRL_101 : Cond.methodLink RL 101 yX12_noon ∈ mTb := mTb_at 1763 (by decide +kernel) rfl
theorem lmRL_102 : Cond.methodLink RL 102 yX11_missed ∈ mTb := mTb_at 930 (by decide +kernel) rfl
theorem lmRL_105 : Cond.methodLink RL 105 yX12_missed ∈ mTb := mTb_at 1767 (by decide +kernel) rfl
theorem lmRL_106 : Cond.methodLink RL 106 yX11_doubled ∈ mTb := mTb_at 934 (by decide +kernel) rfl
theorem lmRL_109 : Cond.methodLink RL 109 yX12_doubled ∈ mTb := mTb_at 1775 (by decide +kernel) rfl
theorem lmRL_110 : Cond.methodLink RL 110 yX11_seats ∈ mTb := mTb_at 938 (by decide +kernel) rfl
theorem lmRL_114 : Cond.methodLink RL 114 yX12_seats ∈ mTb := mTb_at 1779 (by decide +kernel) rfl
theorem lmRL_115 : Cond.methodLink RL 115 yX11_stone ∈ mTb := mTb_at 963 (by decide +kernel) rfl
theorem lmRL_118 : Cond.methodLink RL 118 yX12_stone ∈ mTb := mTb_at 1787 (by decide +kernel) rfl
theorem lmRL_119 : Cond.methodLink RL 119 yX11_loss ∈ mTb := mTb_at 976 (by decide +kernel) rfl
theorem lmRL_122 : Cond.methodLink RL 122 yX12_loss ∈ mTb := mTb_at 1799 (by decide +kernel) rfl
theorem lmRL_123 : Cond.methodLink RL 123 yX11_draft ∈ mTb := mTb_at 984 (by decide +kernel) rfl
theorem lmRL_126 : Cond.methodLink RL 126 yX12_draft ∈ mTb := mTb_at 1803 (by decide +kernel) rfl
theorem lmRL_127 : Cond.methodLink RL 127 yX11_chase ∈ mTb := mTb_at 993 (by decide +kernel) rfl
theorem lmRL_130 : Cond.methodLink RL 130 yX12_chase ∈ mTb := mTb_at 1808 (by decide +kernel) rfl
theorem lmRL_131 : Cond.methodLink RL 131 yX11_marks ∈ mTb := mTb_at 1028 (by decide +kernel) rfl
theorem lmRL_134 : Cond.methodLink RL 134 yX12_marks ∈ mTb := mTb_at 1820 (by decide +kernel) rfl
theorem lmRL_135 : Cond.methodLink RL 135 yX11_lies ∈ mTb := mTb_at 1032 (by decide +kernel) rfl
theorem lmRL_138 : Cond.methodLink RL 138 yX12_lies ∈ mTb := mTb_at 1824 (by decide +kernel) rfl
theorem lmRL_139 : Cond.methodLink RL 139 yX11_report ∈ mTb := mTb_at 1036 (by decide +kernel) rfl
theorem lmRL_142 : Cond.methodLink RL 142 yX12_report ∈ mTb := mTb_at 1828 (by decide +kernel) rfl
theorem lmRL_143 : Cond.methodLink RL 143 yX11_untell ∈ mTb := mTb_at 1044 (by decide +kernel) rfl
theorem lmRL_147 : Cond.methodLink RL 147 yX12_untell ∈ mTb := mTb_at 1832 (by decide +kernel) rfl
theorem lmRL_148 : Cond.methodLink RL 148 yX11_later ∈ mTb := mTb_at 1052 (by decide +kernel) rfl
theorem lmRL_151 : Cond.methodLink RL 151 yX12_later ∈ mTb := mTb_at 1836 (by decide +kernel) rfl
theorem lmRL_152 : Cond.methodLink RL 152 yX11_truths ∈ mTb := mTb_at 1057 (by decide +kernel) rfl
theorem lmRL_155 : Cond.methodLink RL 155 yX12_truths ∈ mTb := mTb_at 1841 (by decide +kernel) rfl
theorem lmRL_156 : Cond.methodLink RL 156 yX11_range ∈ mTb := mTb_at 1100 (by decide +kernel) rfl
theorem lmRL_159 : Cond.methodLink RL 159 yX12_range ∈ mTb := mTb_at 1857 (by decide +kernel) rfl
theorem lmRL_160 : Cond.methodLink RL 160 yX11_liars ∈ mTb := mTb_at 1112 (by decide +kernel) rfl
theorem lmRL_163 : Cond.methodLink RL 163 yX12_liars ∈ mTb := mTb_at 1861 (by decide +kernel) rfl
theorem lmRL_164 : Cond.methodLink RL 164 yX11_knock ∈ mTb := mTb_at 1151 (by decide +kernel) rfl
theorem lmRL_167 : Cond.methodLink RL 167 yX12_knock ∈ mTb := mTb_at 1865 (by decide +kernel) rfl
theorem lmRL_168 : Cond.methodLink RL 168 yX11_tells ∈ mTb := mTb_at 1164 (by decide +kernel) rfl
theorem lmRL_171 : Cond.methodLink RL 171 yX12_tells ∈ mTb := mTb_at 1873 (by decide +kernel) rfl
theorem lmRL_172 : Cond.methodLink RL 172 yX11_odds ∈ mTb := mTb_at 1190 (by decide +kernel) rfl
theorem lmRL_176 : Cond.methodLink RL 176 yX12_odds ∈ mTb := mTb_at 1884 (by decide +kernel) rfl
theorem lmRL_177 : Cond.methodLink RL 177 yX11_image ∈ mTb := mTb_at 1197 (by decide +kernel) rfl
theorem lmRL_180 : Cond.methodLink RL 180 yX12_image ∈ mTb := mTb_at 1891 (by decide +kernel) rfl
theorem lmRL_181 : Cond.methodLink RL 181 yX11_back ∈ mTb := mTb_at 1205 (by decide +kernel) rfl
theorem lmRL_184 : Cond.methodLink RL 184 yX12_back ∈ mTb := mTb_at 1898 (by decide +kernel) rfl
theorem lmRL_185 : Cond.methodLink RL 185 yX11_about ∈ mTb := mTb_at 1213 (by decide +kernel) rfl
theorem lmRL_188 : Cond.methodLink RL 188 yX12_about ∈ mTb := mTb_at 1902 (by decide +kernel) rfl
theorem lmRX12_1 : Cond.methodLink RX12 1 objectInit ∈ mTb := mTb_at 1226 (by decide +kernel) rfl
theorem lmRX12_155 : Cond.methodLink RX12 155 yX12_four ∈ mTb := mTb_at 1452 (by decide +kernel) rfl
theorem lmRX12_165 : Cond.methodLink RX12 165 yX12_here ∈ mTb := mTb_at 1472 (by decide +kernel) rfl
theorem lmRX12_182 : Cond.methodLink RX12 182 yX12_isLetter ∈ mTb := mTb_at 1476 (by decide +kernel) rfl
theorem lmRX12_186 : Cond.methodLink RX12 186 yX12_isDigit ∈ mTb := mTb_at 1479 (by decide +kernel) rfl
theorem lmRX12_189 : Cond.methodLink RX12 189 yX12_isSign ∈ mTb := mTb_at 1482 (by decide +kernel) rfl
theorem lmRX12_225 : Cond.methodLink RX12 225 yX12_isOwn ∈ mTb := mTb_at 1502 (by decide +kernel) rfl
theorem lmRX12_229 : Cond.methodLink RX12 229 yX12_isWord ∈ mTb := mTb_at 1490 (by decide +kernel) rfl
theorem lmRX12_233 : Cond.methodLink RX12 233 yX12_wrong ∈ mTb := mTb_at 1520 (by decide +kernel) rfl
theorem lmRX12_236 : Cond.methodLink RX12 236 yX12_token ∈ mTb := mTb_at 1468 (by decide +kernel) rfl
theorem lmRX12_239 : Cond.methodLink RX12 239 yX12_want ∈ mTb := mTb_at 1532 (by decide +kernel) rfl
theorem lmRX12_243 : Cond.methodLink RX12 243 yX12_toldNumber ∈ mTb := mTb_at 1536 (by decide +kernel) rfl
theorem lmRX12_247 : Cond.methodLink RX12 247 yX12_told ∈ mTb := mTb_at 1528 (by decide +kernel) rfl
theorem lmRX12_260 : Cond.methodLink RX12 260 yX12_tight ∈ mTb := mTb_at 1556 (by decide +kernel) rfl
theorem lmRX12_263 : Cond.methodLink RX12 263 yX12_add ∈ mTb := mTb_at 1575 (by decide +kernel) rfl
theorem lmRX12_276 : Cond.methodLink RX12 276 yX12_mayNot ∈ mTb := mTb_at 1552 (by decide +kernel) rfl
theorem lmRX12_279 : Cond.methodLink RX12 279 yX12_openUp ∈ mTb := mTb_at 1559 (by decide +kernel) rfl
theorem lmRX12_282 : Cond.methodLink RX12 282 yX12_isFull ∈ mTb := mTb_at 1563 (by decide +kernel) rfl
theorem lmRX12_285 : Cond.methodLink RX12 285 yX12_countUnit ∈ mTb := mTb_at 1567 (by decide +kernel) rfl
theorem lmRX12_288 : Cond.methodLink RX12 288 yX12_asked ∈ mTb := mTb_at 1571 (by decide +kernel) rfl
theorem lmRX12_292 : Cond.methodLink RX12 292 yX12_unit ∈ mTb := mTb_at 1548 (by decide +kernel) rfl
theorem lmRX12_295 : Cond.methodLink RX12 295 yX12_sign ∈ mTb := mTb_at 1579 (by decide +kernel) rfl
theorem lmRX12_298 : Cond.methodLink RX12 298 yX12_hasBracket ∈ mTb := mTb_at 1583 (by decide +kernel) rfl
theorem lmRX12_301 : Cond.methodLink RX12 301 yX12_close ∈ mTb := mTb_at 1587 (by decide +kernel) rfl
theorem lmRX12_304 : Cond.methodLink RX12 304 yX12_hasRelation ∈ mTb := mTb_at 1591 (by decide +kernel) rfl
theorem lmRX12_307 : Cond.methodLink RX12 307 yX12_truth ∈ mTb := mTb_at 1626 (by decide +kernel) rfl
theorem lmRX12_311 : Cond.methodLink RX12 311 yX12_done ∈ mTb := mTb_at 1629 (by decide +kernel) rfl
theorem lmRX12_315 : Cond.methodLink RX12 315 yX12_isName ∈ mTb := mTb_at 1498 (by decide +kernel) rfl
theorem lmRX12_318 : Cond.methodLink RX12 318 yX12_find ∈ mTb := mTb_at 1524 (by decide +kernel) rfl
theorem lmRX12_321 : Cond.methodLink RX12 321 yX12_option ∈ mTb := mTb_at 1540 (by decide +kernel) rfl
theorem lmRX12_325 : Cond.methodLink RX12 325 yX12_readHouse ∈ mTb := mTb_at 1494 (by decide +kernel) rfl
theorem lmRX12_328 : Cond.methodLink RX12 328 yX12_formula ∈ mTb := mTb_at 1544 (by decide +kernel) rfl
theorem lmRX12_338 : Cond.methodLink RX12 338 yX12_readLine ∈ mTb := mTb_at 1485 (by decide +kernel) rfl
theorem lmRX12_341 : Cond.methodLink RX12 341 yX12_readAll ∈ mTb := mTb_at 1464 (by decide +kernel) rfl
theorem lmRX12_362 : Cond.methodLink RX12 362 yX12_isIn ∈ mTb := mTb_at 1607 (by decide +kernel) rfl
theorem lmRX12_372 : Cond.methodLink RX12 372 yX12_askOf ∈ mTb := mTb_at 1618 (by decide +kernel) rfl
theorem lmRX12_376 : Cond.methodLink RX12 376 yX12_worked ∈ mTb := mTb_at 1622 (by decide +kernel) rfl
theorem lmRX12_379 : Cond.methodLink RX12 379 yX12_bound ∈ mTb := mTb_at 1632 (by decide +kernel) rfl
theorem lmRX12_382 : Cond.methodLink RX12 382 yX12_stonesOf ∈ mTb := mTb_at 1614 (by decide +kernel) rfl
theorem lmRX12_385 : Cond.methodLink RX12 385 yX12_notMoreHidden ∈ mTb := mTb_at 1667 (by decide +kernel) rfl
theorem lmRX12_388 : Cond.methodLink RX12 388 yX12_isHouse ∈ mTb := mTb_at 1603 (by decide +kernel) rfl
theorem lmRX12_391 : Cond.methodLink RX12 391 yX12_load ∈ mTb := mTb_at 1610 (by decide +kernel) rfl
theorem lmRX12_394 : Cond.methodLink RX12 394 yX12_shows ∈ mTb := mTb_at 1635 (by decide +kernel) rfl
theorem lmRX12_397 : Cond.methodLink RX12 397 yX12_taxOf ∈ mTb := mTb_at 1639 (by decide +kernel) rfl
theorem lmRX12_400 : Cond.methodLink RX12 400 yX12_partOf ∈ mTb := mTb_at 1647 (by decide +kernel) rfl
theorem lmRX12_403 : Cond.methodLink RX12 403 yX12_act ∈ mTb := mTb_at 1655 (by decide +kernel) rfl
theorem lmRX12_406 : Cond.methodLink RX12 406 yX12_keep ∈ mTb := mTb_at 1671 (by decide +kernel) rfl
theorem lmRX12_409 : Cond.methodLink RX12 409 yX12_leaves ∈ mTb := mTb_at 1663 (by decide +kernel) rfl
theorem lmRX12_412 : Cond.methodLink RX12 412 yX12_goSummer ∈ mTb := mTb_at 1691 (by decide +kernel) rfl
theorem lmRX12_415 : Cond.methodLink RX12 415 yX12_allBowls ∈ mTb := mTb_at 1695 (by decide +kernel) rfl
theorem lmRX12_418 : Cond.methodLink RX12 418 yX12_exchange ∈ mTb := mTb_at 1703 (by decide +kernel) rfl
theorem lmRX12_421 : Cond.methodLink RX12 421 yX12_goFar ∈ mTb := mTb_at 1719 (by decide +kernel) rfl
theorem lmRX12_427 : Cond.methodLink RX12 427 yX12_layTaxes ∈ mTb := mTb_at 1731 (by decide +kernel) rfl
theorem lmRX12_430 : Cond.methodLink RX12 430 yX12_rowsOf ∈ mTb := mTb_at 1735 (by decide +kernel) rfl
theorem lmRX12_433 : Cond.methodLink RX12 433 yX12_taxOfRow ∈ mTb := mTb_at 1739 (by decide +kernel) rfl
theorem lmRX12_436 : Cond.methodLink RX12 436 yX12_countersRows ∈ mTb := mTb_at 1751 (by decide +kernel) rfl
theorem lmRX12_439 : Cond.methodLink RX12 439 yX12_layCounters ∈ mTb := mTb_at 1755 (by decide +kernel) rfl
theorem lmRX12_442 : Cond.methodLink RX12 442 yX12_doneAt ∈ mTb := mTb_at 1759 (by decide +kernel) rfl
theorem lmRX12_445 : Cond.methodLink RX12 445 yX12_without ∈ mTb := mTb_at 1771 (by decide +kernel) rfl
theorem lmRX12_448 : Cond.methodLink RX12 448 yX12_laySeats ∈ mTb := mTb_at 1783 (by decide +kernel) rfl
theorem lmRX12_451 : Cond.methodLink RX12 451 yX12_keepSeats ∈ mTb := mTb_at 1791 (by decide +kernel) rfl
theorem lmRX12_454 : Cond.methodLink RX12 454 yX12_isOtherSeats ∈ mTb := mTb_at 1795 (by decide +kernel) rfl
theorem lmRX12_457 : Cond.methodLink RX12 457 yX12_sum ∈ mTb := mTb_at 1807 (by decide +kernel) rfl
theorem lmRX12_460 : Cond.methodLink RX12 460 yX12_layRoad ∈ mTb := mTb_at 1812 (by decide +kernel) rfl
theorem lmRX12_463 : Cond.methodLink RX12 463 yX12_moved ∈ mTb := mTb_at 1816 (by decide +kernel) rfl
theorem lmRX12_470 : Cond.methodLink RX12 470 yX12_headOf ∈ mTb := mTb_at 1853 (by decide +kernel) rfl
theorem lmRX12_476 : Cond.methodLink RX12 476 yX12_liarsOf ∈ mTb := mTb_at 1849 (by decide +kernel) rfl
theorem lmRX12_479 : Cond.methodLink RX12 479 yX12_layTruths ∈ mTb := mTb_at 1845 (by decide +kernel) rfl
theorem lmRX12_482 : Cond.methodLink RX12 482 yX12_mostOf ∈ mTb := mTb_at 1869 (by decide +kernel) rfl
theorem lmRX12_485 : Cond.methodLink RX12 485 yX12_membersOf ∈ mTb := mTb_at 1877 (by decide +kernel) rfl
theorem lmRX12_488 : Cond.methodLink RX12 488 yX12_tellsAll ∈ mTb := mTb_at 1880 (by decide +kernel) rfl
theorem lmRX12_492 : Cond.methodLink RX12 492 yX12_common ∈ mTb := mTb_at 1888 (by decide +kernel) rfl
theorem lmRX12_495 : Cond.methodLink RX12 495 yX12_isBox ∈ mTb := mTb_at 1895 (by decide +kernel) rfl
theorem lmRJ0_335 : Cond.methodLink RJ0 335 yJ0_coder_7d493 ∈ mTb := mTb_at 534 (by decide +kernel) rfl
theorem lmRJ0_492 : Cond.methodLink RJ0 492 yJ0_isLatin1_aae02 ∈ mTb := mTb_at 544 (by decide +kernel) rfl
theorem lmRJ0_495 : Cond.methodLink RJ0 495 yJ1_charAt_3b067 ∈ mTb := mTb_at 548 (by decide +kernel) rfl
theorem lmRJ0_498 : Cond.methodLink RJ0 498 yJ2_charAt_3b067 ∈ mTb := mTb_at 559 (by decide +kernel) rfl
theorem lmRJ0_1059 : Cond.methodLink RJ0 1059 yJ3_checkIndex_8e157 ∈ mTb := mTb_at 556 (by decide +kernel) rfl
theorem lmRJ1_9 : Cond.methodLink RJ1 9 yJ0_checkIndex_df160 ∈ mTb := mTb_at 551 (by decide +kernel) rfl
theorem lmRJ2_48 : Cond.methodLink RJ2 48 yJ2_length_9d52b ∈ mTb := mTb_at 565 (by decide +kernel) rfl
theorem lmRJ2_67 : Cond.methodLink RJ2 67 yJ2_checkIndex_2214a ∈ mTb := mTb_at 562 (by decide +kernel) rfl
theorem lmRJ2_71 : Cond.methodLink RJ2 71 yJ2_getChar_3b067 ∈ mTb := mTb_at 569 (by decide +kernel) rfl
theorem lmRJ2_414 : Cond.methodLink RJ2 414 yJ0_checkIndex_df160 ∈ mTb := mTb_at 568 (by decide +kernel) rfl
end
section
def mX0_init : mM := (yX0_init, cX0_init, 1, none)
theorem lwX0_init : mWo mX0_init ∈ mTb := mTb_at 81 (by decide +kernel) rfl
theorem loX0_init : Cond.instanceMethod yX0_init ∈ mTb := mTb_at 80 (by decide +kernel) rfl
def mX0_clear : mM := (yX0_clear, cX0_clear, 1, none)
theorem lwX0_clear : mWo mX0_clear ∈ mTb := mTb_at 491 (by decide +kernel) rfl
theorem loX0_clear : Cond.instanceMethod yX0_clear ∈ mTb := mTb_at 489 (by decide +kernel) rfl
theorem lvX0_clear : Cond.selects RX0 yX0_clear yX0_clear ∈ mTb := mTb_at 490 (by decide +kernel) rfl
def mX0_add : mM := (yX0_add, cX0_add, 2, none)
theorem lwX0_add : mWo mX0_add ∈ mTb := mTb_at 635 (by decide +kernel) rfl
theorem loX0_add : Cond.instanceMethod yX0_add ∈ mTb := mTb_at 633 (by decide +kernel) rfl
theorem lvX0_add : Cond.selects RX0 yX0_add yX0_add ∈ mTb := mTb_at 634 (by decide +kernel) rfl
def mX0_work : mM := (yX0_work, cX0_work, 5, (some .int))
theorem lwX0_work : mWo mX0_work ∈ mTb := mTb_at 731 (by decide +kernel) rfl
theorem loX0_work : Cond.instanceMethod yX0_work ∈ mTb := mTb_at 729 (by decide +kernel) rfl
theorem lvX0_work : Cond.selects RX0 yX0_work yX0_work ∈ mTb := mTb_at 730 (by decide +kernel) rfl
def mX0_leaf : mM := (yX0_leaf, cX0_leaf, 3, (some .int))
theorem lwX0_leaf : mWo mX0_leaf ∈ mTb := mTb_at 734 (by decide +kernel) rfl
theorem ltX0_leaf : Cond.static yX0_leaf ∈ mTb := mTb_at 733 (by decide +kernel) rfl
def mX0_join : mM := (yX0_join, cX0_join, 3, (some .int))
theorem lwX0_join : mWo mX0_join ∈ mTb := mTb_at 737 (by decide +kernel) rfl
theorem ltX0_join : Cond.static yX0_join ∈ mTb := mTb_at 736 (by decide +kernel) rfl
def mX1_init : mM := (yX1_init, cX1_init, 1, none)
theorem lwX1_init : mWo mX1_init ∈ mTb := mTb_at 191 (by decide +kernel) rfl
theorem loX1_init : Cond.instanceMethod yX1_init ∈ mTb := mTb_at 190 (by decide +kernel) rfl
def mX1_look : mM := (yX1_look, cX1_look, 5, none)
theorem lwX1_look : mWo mX1_look ∈ mTb := mTb_at 848 (by decide +kernel) rfl
theorem loX1_look : Cond.instanceMethod yX1_look ∈ mTb := mTb_at 846 (by decide +kernel) rfl
theorem lvX1_look : Cond.selects RX1 yX1_look yX1_look ∈ mTb := mTb_at 847 (by decide +kernel) rfl
def mX1_taxHiding : mM := (yX1_taxHiding, cX1_taxHiding, 5, (some .int))
theorem lwX1_taxHiding : mWo mX1_taxHiding ∈ mTb := mTb_at 851 (by decide +kernel) rfl
theorem ltX1_taxHiding : Cond.static yX1_taxHiding ∈ mTb := mTb_at 850 (by decide +kernel) rfl
def mX1_leastTax : mM := (yX1_leastTax, cX1_leastTax, 5, (some .int))
theorem lwX1_leastTax : mWo mX1_leastTax ∈ mTb := mTb_at 888 (by decide +kernel) rfl
theorem loX1_leastTax : Cond.instanceMethod yX1_leastTax ∈ mTb := mTb_at 886 (by decide +kernel) rfl
theorem lvX1_leastTax : Cond.selects RX1 yX1_leastTax yX1_leastTax ∈ mTb := mTb_at 887 (by decide +kernel) rfl
def mX1_choose : mM := (yX1_choose, cX1_choose, 3, (some .int))
theorem lwX1_choose : mWo mX1_choose ∈ mTb := mTb_at 858 (by decide +kernel) rfl
theorem loX1_choose : Cond.instanceMethod yX1_choose ∈ mTb := mTb_at 856 (by decide +kernel) rfl
theorem lvX1_choose : Cond.selects RX1 yX1_choose yX1_choose ∈ mTb := mTb_at 857 (by decide +kernel) rfl
def mX1_weighFromTheEnd : mM := (yX1_weighFromTheEnd, cX1_weighFromTheEnd, 3, none)
theorem lwX1_weighFromTheEnd : mWo mX1_weighFromTheEnd ∈ mTb := mTb_at 862 (by decide +kernel) rfl
theorem loX1_weighFromTheEnd : Cond.instanceMethod yX1_weighFromTheEnd ∈ mTb := mTb_at 861 (by decide +kernel) rfl
theorem lvX1_weighFromTheEnd : Cond.selects RX1 yX1_weighFromTheEnd yX1_weighFromTheEnd ∈ mTb := mTb_sl 34 (by decide +kernel) rfl
def mX1_cheapestFrom : mM := (yX1_cheapestFrom, cX1_cheapestFrom, 5, (some .int))
theorem lwX1_cheapestFrom : mWo mX1_cheapestFrom ∈ mTb := mTb_at 867 (by decide +kernel) rfl
theorem loX1_cheapestFrom : Cond.instanceMethod yX1_cheapestFrom ∈ mTb := mTb_at 866 (by decide +kernel) rfl
theorem lvX1_cheapestFrom : Cond.selects RX1 yX1_cheapestFrom yX1_cheapestFrom ∈ mTb := mTb_sl 35 (by decide +kernel) rfl
def mX1_pickFirst : mM := (yX1_pickFirst, cX1_pickFirst, 7, none)
theorem lwX1_pickFirst : mWo mX1_pickFirst ∈ mTb := mTb_at 872 (by decide +kernel) rfl
theorem loX1_pickFirst : Cond.instanceMethod yX1_pickFirst ∈ mTb := mTb_at 871 (by decide +kernel) rfl
theorem lvX1_pickFirst : Cond.selects RX1 yX1_pickFirst yX1_pickFirst ∈ mTb := mTb_sl 36 (by decide +kernel) rfl
def mX1_firstThatFits : mM := (yX1_firstThatFits, cX1_firstThatFits, 5, (some .int))
theorem lwX1_firstThatFits : mWo mX1_firstThatFits ∈ mTb := mTb_at 876 (by decide +kernel) rfl
theorem loX1_firstThatFits : Cond.instanceMethod yX1_firstThatFits ∈ mTb := mTb_at 875 (by decide +kernel) rfl
theorem lvX1_firstThatFits : Cond.selects RX1 yX1_firstThatFits yX1_firstThatFits ∈ mTb := mTb_sl 37 (by decide +kernel) rfl
def mX2_init : mM := (yX2_init, cX2_init, 1, none)
theorem lwX2_init : mWo mX2_init ∈ mTb := mTb_at 160 (by decide +kernel) rfl
theorem loX2_init : Cond.instanceMethod yX2_init ∈ mTb := mTb_at 159 (by decide +kernel) rfl
def mX2_startFrom : mM := (yX2_startFrom, cX2_startFrom, 2, none)
theorem lwX2_startFrom : mWo mX2_startFrom ∈ mTb := mTb_at 677 (by decide +kernel) rfl
theorem loX2_startFrom : Cond.instanceMethod yX2_startFrom ∈ mTb := mTb_at 675 (by decide +kernel) rfl
theorem lvX2_startFrom : Cond.selects RX2 yX2_startFrom yX2_startFrom ∈ mTb := mTb_at 676 (by decide +kernel) rfl
def mX2_keep : mM := (yX2_keep, cX2_keep, 2, none)
theorem lwX2_keep : mWo mX2_keep ∈ mTb := mTb_at 758 (by decide +kernel) rfl
theorem loX2_keep : Cond.instanceMethod yX2_keep ∈ mTb := mTb_at 756 (by decide +kernel) rfl
theorem lvX2_keep : Cond.selects RX2 yX2_keep yX2_keep ∈ mTb := mTb_at 757 (by decide +kernel) rfl
def mX2_stepBack : mM := (yX2_stepBack, cX2_stepBack, 2, (some .boolean))
theorem lwX2_stepBack : mWo mX2_stepBack ∈ mTb := mTb_at 808 (by decide +kernel) rfl
theorem loX2_stepBack : Cond.instanceMethod yX2_stepBack ∈ mTb := mTb_at 806 (by decide +kernel) rfl
theorem lvX2_stepBack : Cond.selects RX2 yX2_stepBack yX2_stepBack ∈ mTb := mTb_at 807 (by decide +kernel) rfl
def mX2_stepOn : mM := (yX2_stepOn, cX2_stepOn, 2, (some .boolean))
theorem lwX2_stepOn : mWo mX2_stepOn ∈ mTb := mTb_at 820 (by decide +kernel) rfl
theorem loX2_stepOn : Cond.instanceMethod yX2_stepOn ∈ mTb := mTb_at 818 (by decide +kernel) rfl
theorem lvX2_stepOn : Cond.selects RX2 yX2_stepOn yX2_stepOn ∈ mTb := mTb_at 819 (by decide +kernel) rfl
def mX2_emptyBoxes : mM := (yX2_emptyBoxes, cX2_emptyBoxes, 2, none)
theorem lwX2_emptyBoxes : mWo mX2_emptyBoxes ∈ mTb := mTb_at 686 (by decide +kernel) rfl
theorem loX2_emptyBoxes : Cond.instanceMethod yX2_emptyBoxes ∈ mTb := mTb_at 684 (by decide +kernel) rfl
theorem lvX2_emptyBoxes : Cond.selects RX2 yX2_emptyBoxes yX2_emptyBoxes ∈ mTb := mTb_at 685 (by decide +kernel) rfl
def mX2_fillBox : mM := (yX2_fillBox, cX2_fillBox, 3, none)
theorem lwX2_fillBox : mWo mX2_fillBox ∈ mTb := mTb_at 1204 (by decide +kernel) rfl
theorem loX2_fillBox : Cond.instanceMethod yX2_fillBox ∈ mTb := mTb_at 1202 (by decide +kernel) rfl
theorem lvX2_fillBox : Cond.selects RX2 yX2_fillBox yX2_fillBox ∈ mTb := mTb_at 1203 (by decide +kernel) rfl
def mX2_openBox : mM := (yX2_openBox, cX2_openBox, 3, none)
theorem lwX2_openBox : mWo mX2_openBox ∈ mTb := mTb_at 1212 (by decide +kernel) rfl
theorem loX2_openBox : Cond.instanceMethod yX2_openBox ∈ mTb := mTb_at 1210 (by decide +kernel) rfl
theorem lvX2_openBox : Cond.selects RX2 yX2_openBox yX2_openBox ∈ mTb := mTb_at 1211 (by decide +kernel) rfl
def mX2_copyFrom : mM := (yX2_copyFrom, cX2_copyFrom, 2, none)
theorem lwX2_copyFrom : mWo mX2_copyFrom ∈ mTb := mTb_at 681 (by decide +kernel) rfl
theorem loX2_copyFrom : Cond.instanceMethod yX2_copyFrom ∈ mTb := mTb_at 680 (by decide +kernel) rfl
theorem lvX2_copyFrom : Cond.selects RX2 yX2_copyFrom yX2_copyFrom ∈ mTb := mTb_sl 24 (by decide +kernel) rfl
def mX2_copyTo : mM := (yX2_copyTo, cX2_copyTo, 2, none)
theorem lwX2_copyTo : mWo mX2_copyTo ∈ mTb := mTb_at 812 (by decide +kernel) rfl
theorem loX2_copyTo : Cond.instanceMethod yX2_copyTo ∈ mTb := mTb_at 811 (by decide +kernel) rfl
theorem lvX2_copyTo : Cond.selects RX2 yX2_copyTo yX2_copyTo ∈ mTb := mTb_sl 32 (by decide +kernel) rfl
def mX3_init : mM := (yX3_init, cX3_init, 1, none)
theorem lwX3_init : mWo mX3_init ∈ mTb := mTb_at 383 (by decide +kernel) rfl
theorem loX3_init : Cond.instanceMethod yX3_init ∈ mTb := mTb_at 382 (by decide +kernel) rfl
def mX3_forget : mM := (yX3_forget, cX3_forget, 1, none)
theorem lwX3_forget : mWo mX3_forget ∈ mTb := mTb_at 694 (by decide +kernel) rfl
theorem loX3_forget : Cond.instanceMethod yX3_forget ∈ mTb := mTb_at 692 (by decide +kernel) rfl
theorem lvX3_forget : Cond.selects RX3 yX3_forget yX3_forget ∈ mTb := mTb_at 693 (by decide +kernel) rfl
def mX3_learn : mM := (yX3_learn, cX3_learn, 5, none)
theorem lwX3_learn : mWo mX3_learn ∈ mTb := mTb_at 1119 (by decide +kernel) rfl
theorem loX3_learn : Cond.instanceMethod yX3_learn ∈ mTb := mTb_at 1117 (by decide +kernel) rfl
theorem lvX3_learn : Cond.selects RX3 yX3_learn yX3_learn ∈ mTb := mTb_at 1118 (by decide +kernel) rfl
def mX3_takeReports : mM := (yX3_takeReports, cX3_takeReports, 6, (some .int))
theorem lwX3_takeReports : mWo mX3_takeReports ∈ mTb := mTb_at 1124 (by decide +kernel) rfl
theorem loX3_takeReports : Cond.instanceMethod yX3_takeReports ∈ mTb := mTb_at 1123 (by decide +kernel) rfl
theorem lvX3_takeReports : Cond.selects RX3 yX3_takeReports yX3_takeReports ∈ mTb := mTb_sl 59 (by decide +kernel) rfl
def mX3_countOwed : mM := (yX3_countOwed, cX3_countOwed, 3, none)
theorem lwX3_countOwed : mWo mX3_countOwed ∈ mTb := mTb_at 1129 (by decide +kernel) rfl
theorem loX3_countOwed : Cond.instanceMethod yX3_countOwed ∈ mTb := mTb_at 1128 (by decide +kernel) rfl
theorem lvX3_countOwed : Cond.selects RX3 yX3_countOwed yX3_countOwed ∈ mTb := mTb_sl 60 (by decide +kernel) rfl
def mX3_leastAgainst : mM := (yX3_leastAgainst, cX3_leastAgainst, 5, (some .int))
theorem lwX3_leastAgainst : mWo mX3_leastAgainst ∈ mTb := mTb_at 1133 (by decide +kernel) rfl
theorem loX3_leastAgainst : Cond.instanceMethod yX3_leastAgainst ∈ mTb := mTb_at 1132 (by decide +kernel) rfl
theorem lvX3_leastAgainst : Cond.selects RX3 yX3_leastAgainst yX3_leastAgainst ∈ mTb := mTb_sl 61 (by decide +kernel) rfl
def mX3_searchFrom : mM := (yX3_searchFrom, cX3_searchFrom, 5, none)
theorem lwX3_searchFrom : mWo mX3_searchFrom ∈ mTb := mTb_at 1144 (by decide +kernel) rfl
theorem loX3_searchFrom : Cond.instanceMethod yX3_searchFrom ∈ mTb := mTb_at 1143 (by decide +kernel) rfl
theorem lvX3_searchFrom : Cond.selects RX3 yX3_searchFrom yX3_searchFrom ∈ mTb := mTb_sl 62 (by decide +kernel) rfl
def mX3_againstWith : mM := (yX3_againstWith, cX3_againstWith, 6, (some .int))
theorem lwX3_againstWith : mWo mX3_againstWith ∈ mTb := mTb_at 1149 (by decide +kernel) rfl
theorem loX3_againstWith : Cond.instanceMethod yX3_againstWith ∈ mTb := mTb_at 1148 (by decide +kernel) rfl
theorem lvX3_againstWith : Cond.selects RX3 yX3_againstWith yX3_againstWith ∈ mTb := mTb_sl 63 (by decide +kernel) rfl
def mX4_init : mM := (yX4_init, cX4_init, 1, none)
theorem lwX4_init : mWo mX4_init ∈ mTb := mTb_at 34 (by decide +kernel) rfl
theorem loX4_init : Cond.instanceMethod yX4_init ∈ mTb := mTb_at 33 (by decide +kernel) rfl
def mX4_append : mM := (yX4_append, cX4_append, 3, none)
theorem lwX4_append : mWo mX4_append ∈ mTb := mTb_at 471 (by decide +kernel) rfl
theorem loX4_append : Cond.instanceMethod yX4_append ∈ mTb := mTb_at 469 (by decide +kernel) rfl
theorem lvX4_append : Cond.selects RX4 yX4_append yX4_append ∈ mTb := mTb_at 470 (by decide +kernel) rfl
def mX4_readAll : mM := (yX4_readAll, cX4_readAll, 3, (some .boolean))
theorem lwX4_readAll : mWo mX4_readAll ∈ mTb := mTb_at 483 (by decide +kernel) rfl
theorem loX4_readAll : Cond.instanceMethod yX4_readAll ∈ mTb := mTb_at 481 (by decide +kernel) rfl
theorem lvX4_readAll : Cond.selects RX4 yX4_readAll yX4_readAll ∈ mTb := mTb_at 482 (by decide +kernel) rfl
def mX4_readLine : mM := (yX4_readLine, cX4_readLine, 2, none)
theorem lwX4_readLine : mWo mX4_readLine ∈ mTb := mTb_at 524 (by decide +kernel) rfl
theorem loX4_readLine : Cond.instanceMethod yX4_readLine ∈ mTb := mTb_at 523 (by decide +kernel) rfl
theorem lvX4_readLine : Cond.selects RX4 yX4_readLine yX4_readLine ∈ mTb := mTb_sl 7 (by decide +kernel) rfl
def mX4_readHouse : mM := (yX4_readHouse, cX4_readHouse, 8, none)
theorem lwX4_readHouse : mWo mX4_readHouse ∈ mTb := mTb_at 581 (by decide +kernel) rfl
theorem loX4_readHouse : Cond.instanceMethod yX4_readHouse ∈ mTb := mTb_at 580 (by decide +kernel) rfl
theorem lvX4_readHouse : Cond.selects RX4 yX4_readHouse yX4_readHouse ∈ mTb := mTb_sl 9 (by decide +kernel) rfl
def mX4_readDraw : mM := (yX4_readDraw, cX4_readDraw, 2, none)
theorem lwX4_readDraw : mWo mX4_readDraw ∈ mTb := mTb_at 663 (by decide +kernel) rfl
theorem loX4_readDraw : Cond.instanceMethod yX4_readDraw ∈ mTb := mTb_at 662 (by decide +kernel) rfl
theorem lvX4_readDraw : Cond.selects RX4 yX4_readDraw yX4_readDraw ∈ mTb := mTb_sl 23 (by decide +kernel) rfl
def mX4_readLaw : mM := (yX4_readLaw, cX4_readLaw, 2, none)
theorem lwX4_readLaw : mWo mX4_readLaw ∈ mTb := mTb_at 619 (by decide +kernel) rfl
theorem loX4_readLaw : Cond.instanceMethod yX4_readLaw ∈ mTb := mTb_at 618 (by decide +kernel) rfl
theorem lvX4_readLaw : Cond.selects RX4 yX4_readLaw yX4_readLaw ∈ mTb := mTb_sl 13 (by decide +kernel) rfl
def mX4_readEither : mM := (yX4_readEither, cX4_readEither, 4, none)
theorem lwX4_readEither : mWo mX4_readEither ∈ mTb := mTb_at 623 (by decide +kernel) rfl
theorem loX4_readEither : Cond.instanceMethod yX4_readEither ∈ mTb := mTb_at 622 (by decide +kernel) rfl
theorem lvX4_readEither : Cond.selects RX4 yX4_readEither yX4_readEither ∈ mTb := mTb_sl 14 (by decide +kernel) rfl
def mX4_readBoth : mM := (yX4_readBoth, cX4_readBoth, 4, none)
theorem lwX4_readBoth : mWo mX4_readBoth ∈ mTb := mTb_at 627 (by decide +kernel) rfl
theorem loX4_readBoth : Cond.instanceMethod yX4_readBoth ∈ mTb := mTb_at 626 (by decide +kernel) rfl
theorem lvX4_readBoth : Cond.selects RX4 yX4_readBoth yX4_readBoth ∈ mTb := mTb_sl 15 (by decide +kernel) rfl
def mX4_readOne : mM := (yX4_readOne, cX4_readOne, 4, none)
theorem lwX4_readOne : mWo mX4_readOne ∈ mTb := mTb_at 631 (by decide +kernel) rfl
theorem loX4_readOne : Cond.instanceMethod yX4_readOne ∈ mTb := mTb_at 630 (by decide +kernel) rfl
theorem lvX4_readOne : Cond.selects RX4 yX4_readOne yX4_readOne ∈ mTb := mTb_sl 16 (by decide +kernel) rfl
def mX4_readSum : mM := (yX4_readSum, cX4_readSum, 5, none)
theorem lwX4_readSum : mWo mX4_readSum ∈ mTb := mTb_at 639 (by decide +kernel) rfl
theorem loX4_readSum : Cond.instanceMethod yX4_readSum ∈ mTb := mTb_at 638 (by decide +kernel) rfl
theorem lvX4_readSum : Cond.selects RX4 yX4_readSum yX4_readSum ∈ mTb := mTb_sl 17 (by decide +kernel) rfl
def mX4_readTerm : mM := (yX4_readTerm, cX4_readTerm, 5, none)
theorem lwX4_readTerm : mWo mX4_readTerm ∈ mTb := mTb_at 643 (by decide +kernel) rfl
theorem loX4_readTerm : Cond.instanceMethod yX4_readTerm ∈ mTb := mTb_at 642 (by decide +kernel) rfl
theorem lvX4_readTerm : Cond.selects RX4 yX4_readTerm yX4_readTerm ∈ mTb := mTb_sl 18 (by decide +kernel) rfl
def mX4_readUnit : mM := (yX4_readUnit, cX4_readUnit, 4, none)
theorem lwX4_readUnit : mWo mX4_readUnit ∈ mTb := mTb_at 647 (by decide +kernel) rfl
theorem loX4_readUnit : Cond.instanceMethod yX4_readUnit ∈ mTb := mTb_at 646 (by decide +kernel) rfl
theorem lvX4_readUnit : Cond.selects RX4 yX4_readUnit yX4_readUnit ∈ mTb := mTb_sl 19 (by decide +kernel) rfl
def mX4_valueNamed : mM := (yX4_valueNamed, cX4_valueNamed, 1, (some .int))
theorem lwX4_valueNamed : mWo mX4_valueNamed ∈ mTb := mTb_at 651 (by decide +kernel) rfl
theorem loX4_valueNamed : Cond.instanceMethod yX4_valueNamed ∈ mTb := mTb_at 650 (by decide +kernel) rfl
theorem lvX4_valueNamed : Cond.selects RX4 yX4_valueNamed yX4_valueNamed ∈ mTb := mTb_sl 20 (by decide +kernel) rfl
def mX4_standsForItself : mM := (yX4_standsForItself, cX4_standsForItself, 1, (some .boolean))
theorem lwX4_standsForItself : mWo mX4_standsForItself ∈ mTb := mTb_at 589 (by decide +kernel) rfl
theorem loX4_standsForItself : Cond.instanceMethod yX4_standsForItself ∈ mTb := mTb_at 588 (by decide +kernel) rfl
theorem lvX4_standsForItself : Cond.selects RX4 yX4_standsForItself yX4_standsForItself ∈ mTb := mTb_sl 11 (by decide +kernel) rfl
def mX4_takeName : mM := (yX4_takeName, cX4_takeName, 4, (some .long))
theorem lwX4_takeName : mWo mX4_takeName ∈ mTb := mTb_at 585 (by decide +kernel) rfl
theorem loX4_takeName : Cond.instanceMethod yX4_takeName ∈ mTb := mTb_at 584 (by decide +kernel) rfl
theorem lvX4_takeName : Cond.selects RX4 yX4_takeName yX4_takeName ∈ mTb := mTb_sl 10 (by decide +kernel) rfl
def mX4_takeTold : mM := (yX4_takeTold, cX4_takeTold, 4, (some .int))
theorem lwX4_takeTold : mWo mX4_takeTold ∈ mTb := mTb_at 611 (by decide +kernel) rfl
theorem loX4_takeTold : Cond.instanceMethod yX4_takeTold ∈ mTb := mTb_at 610 (by decide +kernel) rfl
theorem lvX4_takeTold : Cond.selects RX4 yX4_takeTold yX4_takeTold ∈ mTb := mTb_sl 12 (by decide +kernel) rfl
def mX4_takeSign : mM := (yX4_takeSign, cX4_takeSign, 2, none)
theorem lwX4_takeSign : mWo mX4_takeSign ∈ mTb := mTb_at 659 (by decide +kernel) rfl
theorem loX4_takeSign : Cond.instanceMethod yX4_takeSign ∈ mTb := mTb_at 658 (by decide +kernel) rfl
theorem lvX4_takeSign : Cond.selects RX4 yX4_takeSign yX4_takeSign ∈ mTb := mTb_sl 22 (by decide +kernel) rfl
def mX4_isSign : mM := (yX4_isSign, cX4_isSign, 2, (some .boolean))
theorem lwX4_isSign : mWo mX4_isSign ∈ mTb := mTb_at 655 (by decide +kernel) rfl
theorem loX4_isSign : Cond.instanceMethod yX4_isSign ∈ mTb := mTb_at 654 (by decide +kernel) rfl
theorem lvX4_isSign : Cond.selects RX4 yX4_isSign yX4_isSign ∈ mTb := mTb_sl 21 (by decide +kernel) rfl
def mX4_isWord : mM := (yX4_isWord, cX4_isWord, 4, (some .boolean))
theorem lwX4_isWord : mWo mX4_isWord ∈ mTb := mTb_at 529 (by decide +kernel) rfl
theorem loX4_isWord : Cond.instanceMethod yX4_isWord ∈ mTb := mTb_at 528 (by decide +kernel) rfl
theorem lvX4_isWord : Cond.selects RX4 yX4_isWord yX4_isWord ∈ mTb := mTb_sl 8 (by decide +kernel) rfl
def mX4_refuse : mM := (yX4_refuse, cX4_refuse, 2, none)
theorem lwX4_refuse : mWo mX4_refuse ∈ mTb := mTb_at 508 (by decide +kernel) rfl
theorem loX4_refuse : Cond.instanceMethod yX4_refuse ∈ mTb := mTb_at 507 (by decide +kernel) rfl
theorem lvX4_refuse : Cond.selects RX4 yX4_refuse yX4_refuse ∈ mTb := mTb_sl 3 (by decide +kernel) rfl
def mX4_advance : mM := (yX4_advance, cX4_advance, 1, none)
theorem lwX4_advance : mWo mX4_advance ∈ mTb := mTb_at 495 (by decide +kernel) rfl
theorem loX4_advance : Cond.instanceMethod yX4_advance ∈ mTb := mTb_at 494 (by decide +kernel) rfl
theorem lvX4_advance : Cond.selects RX4 yX4_advance yX4_advance ∈ mTb := mTb_sl 0 (by decide +kernel) rfl
def mX4_scanWord : mM := (yX4_scanWord, cX4_scanWord, 1, none)
theorem lwX4_scanWord : mWo mX4_scanWord ∈ mTb := mTb_at 503 (by decide +kernel) rfl
theorem loX4_scanWord : Cond.instanceMethod yX4_scanWord ∈ mTb := mTb_at 502 (by decide +kernel) rfl
theorem lvX4_scanWord : Cond.selects RX4 yX4_scanWord yX4_scanWord ∈ mTb := mTb_sl 2 (by decide +kernel) rfl
def mX4_scanNumber : mM := (yX4_scanNumber, cX4_scanNumber, 1, none)
theorem lwX4_scanNumber : mWo mX4_scanNumber ∈ mTb := mTb_at 516 (by decide +kernel) rfl
theorem loX4_scanNumber : Cond.instanceMethod yX4_scanNumber ∈ mTb := mTb_at 515 (by decide +kernel) rfl
theorem lvX4_scanNumber : Cond.selects RX4 yX4_scanNumber yX4_scanNumber ∈ mTb := mTb_sl 5 (by decide +kernel) rfl
def mX4_scanSign : mM := (yX4_scanSign, cX4_scanSign, 1, none)
theorem lwX4_scanSign : mWo mX4_scanSign ∈ mTb := mTb_at 520 (by decide +kernel) rfl
theorem loX4_scanSign : Cond.instanceMethod yX4_scanSign ∈ mTb := mTb_at 519 (by decide +kernel) rfl
theorem lvX4_scanSign : Cond.selects RX4 yX4_scanSign yX4_scanSign ∈ mTb := mTb_sl 6 (by decide +kernel) rfl
def mX4_isLetterAt : mM := (yX4_isLetterAt, cX4_isLetterAt, 2, (some .boolean))
theorem lwX4_isLetterAt : mWo mX4_isLetterAt ∈ mTb := mTb_at 499 (by decide +kernel) rfl
theorem loX4_isLetterAt : Cond.instanceMethod yX4_isLetterAt ∈ mTb := mTb_at 498 (by decide +kernel) rfl
theorem lvX4_isLetterAt : Cond.selects RX4 yX4_isLetterAt yX4_isLetterAt ∈ mTb := mTb_sl 1 (by decide +kernel) rfl
def mX4_isDigitAt : mM := (yX4_isDigitAt, cX4_isDigitAt, 2, (some .boolean))
theorem lwX4_isDigitAt : mWo mX4_isDigitAt ∈ mTb := mTb_at 512 (by decide +kernel) rfl
theorem loX4_isDigitAt : Cond.instanceMethod yX4_isDigitAt ∈ mTb := mTb_at 511 (by decide +kernel) rfl
theorem lvX4_isDigitAt : Cond.selects RX4 yX4_isDigitAt yX4_isDigitAt ∈ mTb := mTb_sl 4 (by decide +kernel) rfl
def mX5_init : mM := (yX5_init, cX5_init, 1, none)
theorem lwX5_init : mWo mX5_init ∈ mTb := mTb_at 271 (by decide +kernel) rfl
theorem loX5_init : Cond.instanceMethod yX5_init ∈ mTb := mTb_at 270 (by decide +kernel) rfl
def mX5_add : mM := (yX5_add, cX5_add, 5, (some .int))
theorem lwX5_add : mWo mX5_add ∈ mTb := mTb_at 1043 (by decide +kernel) rfl
theorem loX5_add : Cond.instanceMethod yX5_add ∈ mTb := mTb_at 1041 (by decide +kernel) rfl
theorem lvX5_add : Cond.selects RX5 yX5_add yX5_add ∈ mTb := mTb_at 1042 (by decide +kernel) rfl
def mX5_takeBack : mM := (yX5_takeBack, cX5_takeBack, 3, (some .boolean))
theorem lwX5_takeBack : mWo mX5_takeBack ∈ mTb := mTb_at 1051 (by decide +kernel) rfl
theorem loX5_takeBack : Cond.instanceMethod yX5_takeBack ∈ mTb := mTb_at 1049 (by decide +kernel) rfl
theorem lvX5_takeBack : Cond.selects RX5 yX5_takeBack yX5_takeBack ∈ mTb := mTb_at 1050 (by decide +kernel) rfl
def mX5_countingAt : mM := (yX5_countingAt, cX5_countingAt, 5, (some .int))
theorem lwX5_countingAt : mWo mX5_countingAt ∈ mTb := mTb_at 1068 (by decide +kernel) rfl
theorem loX5_countingAt : Cond.instanceMethod yX5_countingAt ∈ mTb := mTb_at 1066 (by decide +kernel) rfl
theorem lvX5_countingAt : Cond.selects RX5 yX5_countingAt yX5_countingAt ∈ mTb := mTb_at 1067 (by decide +kernel) rfl
def mX6_init : mM := (yX6_init, cX6_init, 1, none)
theorem lwX6_init : mWo mX6_init ∈ mTb := mTb_at 212 (by decide +kernel) rfl
theorem loX6_init : Cond.instanceMethod yX6_init ∈ mTb := mTb_at 211 (by decide +kernel) rfl
def mX6_look : mM := (yX6_look, cX6_look, 3, none)
theorem lwX6_look : mWo mX6_look ∈ mTb := mTb_at 896 (by decide +kernel) rfl
theorem loX6_look : Cond.instanceMethod yX6_look ∈ mTb := mTb_at 894 (by decide +kernel) rfl
theorem lvX6_look : Cond.selects RX6 yX6_look yX6_look ∈ mTb := mTb_at 895 (by decide +kernel) rfl
def mX6_fewestBy : mM := (yX6_fewestBy, cX6_fewestBy, 3, (some .int))
theorem lwX6_fewestBy : mWo mX6_fewestBy ∈ mTb := mTb_at 902 (by decide +kernel) rfl
theorem loX6_fewestBy : Cond.instanceMethod yX6_fewestBy ∈ mTb := mTb_at 900 (by decide +kernel) rfl
theorem lvX6_fewestBy : Cond.selects RX6 yX6_fewestBy yX6_fewestBy ∈ mTb := mTb_at 901 (by decide +kernel) rfl
def mX6_firstNoon : mM := (yX6_firstNoon, cX6_firstNoon, 2, (some .int))
theorem lwX6_firstNoon : mWo mX6_firstNoon ∈ mTb := mTb_at 923 (by decide +kernel) rfl
theorem loX6_firstNoon : Cond.instanceMethod yX6_firstNoon ∈ mTb := mTb_at 921 (by decide +kernel) rfl
theorem lvX6_firstNoon : Cond.selects RX6 yX6_firstNoon yX6_firstNoon ∈ mTb := mTb_at 922 (by decide +kernel) rfl
def mX6_sendFrom : mM := (yX6_sendFrom, cX6_sendFrom, 8, (some .boolean))
theorem lwX6_sendFrom : mWo mX6_sendFrom ∈ mTb := mTb_at 906 (by decide +kernel) rfl
theorem loX6_sendFrom : Cond.instanceMethod yX6_sendFrom ∈ mTb := mTb_at 905 (by decide +kernel) rfl
theorem lvX6_sendFrom : Cond.selects RX6 yX6_sendFrom yX6_sendFrom ∈ mTb := mTb_sl 39 (by decide +kernel) rfl
def mX6_soonestFrom : mM := (yX6_soonestFrom, cX6_soonestFrom, 9, (some .int))
theorem lwX6_soonestFrom : mWo mX6_soonestFrom ∈ mTb := mTb_at 927 (by decide +kernel) rfl
theorem loX6_soonestFrom : Cond.instanceMethod yX6_soonestFrom ∈ mTb := mTb_at 926 (by decide +kernel) rfl
theorem lvX6_soonestFrom : Cond.selects RX6 yX6_soonestFrom yX6_soonestFrom ∈ mTb := mTb_sl 42 (by decide +kernel) rfl
def mX6_busyWith : mM := (yX6_busyWith, cX6_busyWith, 3, (some .int))
theorem lwX6_busyWith : mWo mX6_busyWith ∈ mTb := mTb_at 910 (by decide +kernel) rfl
theorem loX6_busyWith : Cond.instanceMethod yX6_busyWith ∈ mTb := mTb_at 909 (by decide +kernel) rfl
theorem lvX6_busyWith : Cond.selects RX6 yX6_busyWith yX6_busyWith ∈ mTb := mTb_sl 40 (by decide +kernel) rfl
def mX6_putBack : mM := (yX6_putBack, cX6_putBack, 4, none)
theorem lwX6_putBack : mWo mX6_putBack ∈ mTb := mTb_at 915 (by decide +kernel) rfl
theorem loX6_putBack : Cond.instanceMethod yX6_putBack ∈ mTb := mTb_at 914 (by decide +kernel) rfl
theorem lvX6_putBack : Cond.selects RX6 yX6_putBack yX6_putBack ∈ mTb := mTb_sl 41 (by decide +kernel) rfl
def mX6_planKnocks : mM := (yX6_planKnocks, cX6_planKnocks, 4, (some .int))
theorem lwX6_planKnocks : mWo mX6_planKnocks ∈ mTb := mTb_at 1000 (by decide +kernel) rfl
theorem loX6_planKnocks : Cond.instanceMethod yX6_planKnocks ∈ mTb := mTb_at 998 (by decide +kernel) rfl
theorem lvX6_planKnocks : Cond.selects RX6 yX6_planKnocks yX6_planKnocks ∈ mTb := mTb_at 999 (by decide +kernel) rfl
def mX6_findNeighbours : mM := (yX6_findNeighbours, cX6_findNeighbours, 5, none)
theorem lwX6_findNeighbours : mWo mX6_findNeighbours ∈ mTb := mTb_at 1004 (by decide +kernel) rfl
theorem loX6_findNeighbours : Cond.instanceMethod yX6_findNeighbours ∈ mTb := mTb_at 1003 (by decide +kernel) rfl
theorem lvX6_findNeighbours : Cond.selects RX6 yX6_findNeighbours yX6_findNeighbours ∈ mTb := mTb_sl 48 (by decide +kernel) rfl
def mX6_isBefore : mM := (yX6_isBefore, cX6_isBefore, 4, (some .boolean))
theorem lwX6_isBefore : mWo mX6_isBefore ∈ mTb := mTb_at 1008 (by decide +kernel) rfl
theorem loX6_isBefore : Cond.instanceMethod yX6_isBefore ∈ mTb := mTb_at 1007 (by decide +kernel) rfl
theorem lvX6_isBefore : Cond.selects RX6 yX6_isBefore yX6_isBefore ∈ mTb := mTb_sl 49 (by decide +kernel) rfl
def mX6_bitOf : mM := (yX6_bitOf, cX6_bitOf, 1, (some .int))
theorem lwX6_bitOf : mWo mX6_bitOf ∈ mTb := mTb_at 1011 (by decide +kernel) rfl
theorem ltX6_bitOf : Cond.static yX6_bitOf ∈ mTb := mTb_at 1010 (by decide +kernel) rfl
def mX6_countSteps : mM := (yX6_countSteps, cX6_countSteps, 5, none)
theorem lwX6_countSteps : mWo mX6_countSteps ∈ mTb := mTb_at 1015 (by decide +kernel) rfl
theorem loX6_countSteps : Cond.instanceMethod yX6_countSteps ∈ mTb := mTb_at 1014 (by decide +kernel) rfl
theorem lvX6_countSteps : Cond.selects RX6 yX6_countSteps yX6_countSteps ∈ mTb := mTb_sl 50 (by decide +kernel) rfl
def mX6_fewestFrom : mM := (yX6_fewestFrom, cX6_fewestFrom, 4, (some .int))
theorem lwX6_fewestFrom : mWo mX6_fewestFrom ∈ mTb := mTb_at 1019 (by decide +kernel) rfl
theorem loX6_fewestFrom : Cond.instanceMethod yX6_fewestFrom ∈ mTb := mTb_at 1018 (by decide +kernel) rfl
theorem lvX6_fewestFrom : Cond.selects RX6 yX6_fewestFrom yX6_fewestFrom ∈ mTb := mTb_sl 51 (by decide +kernel) rfl
def mX6_firstOnTheWay : mM := (yX6_firstOnTheWay, cX6_firstOnTheWay, 3, (some .int))
theorem lwX6_firstOnTheWay : mWo mX6_firstOnTheWay ∈ mTb := mTb_at 1027 (by decide +kernel) rfl
theorem loX6_firstOnTheWay : Cond.instanceMethod yX6_firstOnTheWay ∈ mTb := mTb_at 1026 (by decide +kernel) rfl
theorem lvX6_firstOnTheWay : Cond.selects RX6 yX6_firstOnTheWay yX6_firstOnTheWay ∈ mTb := mTb_sl 53 (by decide +kernel) rfl
def mX6_afterKnock : mM := (yX6_afterKnock, cX6_afterKnock, 5, (some .int))
theorem lwX6_afterKnock : mWo mX6_afterKnock ∈ mTb := mTb_at 1023 (by decide +kernel) rfl
theorem loX6_afterKnock : Cond.instanceMethod yX6_afterKnock ∈ mTb := mTb_at 1022 (by decide +kernel) rfl
theorem lvX6_afterKnock : Cond.selects RX6 yX6_afterKnock yX6_afterKnock ∈ mTb := mTb_sl 52 (by decide +kernel) rfl
def mX7_init : mM := (yX7_init, cX7_init, 1, none)
theorem lwX7_init : mWo mX7_init ∈ mTb := mTb_at 248 (by decide +kernel) rfl
theorem loX7_init : Cond.instanceMethod yX7_init ∈ mTb := mTb_at 247 (by decide +kernel) rfl
def mX7_look : mM := (yX7_look, cX7_look, 3, none)
theorem lwX7_look : mWo mX7_look ∈ mTb := mTb_at 945 (by decide +kernel) rfl
theorem loX7_look : Cond.instanceMethod yX7_look ∈ mTb := mTb_at 943 (by decide +kernel) rfl
theorem lvX7_look : Cond.selects RX7 yX7_look yX7_look ∈ mTb := mTb_at 944 (by decide +kernel) rfl
def mX7_share : mM := (yX7_share, cX7_share, 5, none)
theorem lwX7_share : mWo mX7_share ∈ mTb := mTb_at 950 (by decide +kernel) rfl
theorem loX7_share : Cond.instanceMethod yX7_share ∈ mTb := mTb_at 948 (by decide +kernel) rfl
theorem lvX7_share : Cond.selects RX7 yX7_share yX7_share ∈ mTb := mTb_at 949 (by decide +kernel) rfl
def mX7_changedByOne : mM := (yX7_changedByOne, cX7_changedByOne, 5, (some .int))
theorem lwX7_changedByOne : mWo mX7_changedByOne ∈ mTb := mTb_at 970 (by decide +kernel) rfl
theorem loX7_changedByOne : Cond.instanceMethod yX7_changedByOne ∈ mTb := mTb_at 968 (by decide +kernel) rfl
theorem lvX7_changedByOne : Cond.selects RX7 yX7_changedByOne yX7_changedByOne ∈ mTb := mTb_at 969 (by decide +kernel) rfl
def mX7_firstLoser : mM := (yX7_firstLoser, cX7_firstLoser, 3, (some .int))
theorem lwX7_firstLoser : mWo mX7_firstLoser ∈ mTb := mTb_at 983 (by decide +kernel) rfl
theorem loX7_firstLoser : Cond.instanceMethod yX7_firstLoser ∈ mTb := mTb_at 981 (by decide +kernel) rfl
theorem lvX7_firstLoser : Cond.selects RX7 yX7_firstLoser yX7_firstLoser ∈ mTb := mTb_at 982 (by decide +kernel) rfl
def mX7_isChanged : mM := (yX7_isChanged, cX7_isChanged, 2, (some .boolean))
theorem lwX7_isChanged : mWo mX7_isChanged ∈ mTb := mTb_at 975 (by decide +kernel) rfl
theorem loX7_isChanged : Cond.instanceMethod yX7_isChanged ∈ mTb := mTb_at 974 (by decide +kernel) rfl
theorem lvX7_isChanged : Cond.selects RX7 yX7_isChanged yX7_isChanged ∈ mTb := mTb_sl 46 (by decide +kernel) rfl
def mX7_shareByRests : mM := (yX7_shareByRests, cX7_shareByRests, 6, none)
theorem lwX7_shareByRests : mWo mX7_shareByRests ∈ mTb := mTb_at 954 (by decide +kernel) rfl
theorem loX7_shareByRests : Cond.instanceMethod yX7_shareByRests ∈ mTb := mTb_at 953 (by decide +kernel) rfl
theorem lvX7_shareByRests : Cond.selects RX7 yX7_shareByRests yX7_shareByRests ∈ mTb := mTb_sl 43 (by decide +kernel) rfl
def mX7_greatestRest : mM := (yX7_greatestRest, cX7_greatestRest, 3, (some .int))
theorem lwX7_greatestRest : mWo mX7_greatestRest ∈ mTb := mTb_at 958 (by decide +kernel) rfl
theorem loX7_greatestRest : Cond.instanceMethod yX7_greatestRest ∈ mTb := mTb_at 957 (by decide +kernel) rfl
theorem lvX7_greatestRest : Cond.selects RX7 yX7_greatestRest yX7_greatestRest ∈ mTb := mTb_sl 44 (by decide +kernel) rfl
def mX7_shareOneByOne : mM := (yX7_shareOneByOne, cX7_shareOneByOne, 5, none)
theorem lwX7_shareOneByOne : mWo mX7_shareOneByOne ∈ mTb := mTb_at 962 (by decide +kernel) rfl
theorem loX7_shareOneByOne : Cond.instanceMethod yX7_shareOneByOne ∈ mTb := mTb_at 961 (by decide +kernel) rfl
theorem lvX7_shareOneByOne : Cond.selects RX7 yX7_shareOneByOne yX7_shareOneByOne ∈ mTb := mTb_sl 45 (by decide +kernel) rfl
def mX8_init : mM := (yX8_init, cX8_init, 1, none)
theorem lwX8_init : mWo mX8_init ∈ mTb := mTb_at 75 (by decide +kernel) rfl
theorem loX8_init : Cond.instanceMethod yX8_init ∈ mTb := mTb_at 74 (by decide +kernel) rfl
def mX8_clear : mM := (yX8_clear, cX8_clear, 1, none)
theorem lwX8_clear : mWo mX8_clear ∈ mTb := mTb_at 487 (by decide +kernel) rfl
theorem loX8_clear : Cond.instanceMethod yX8_clear ∈ mTb := mTb_at 485 (by decide +kernel) rfl
theorem lvX8_clear : Cond.selects RX8 yX8_clear yX8_clear ∈ mTb := mTb_at 486 (by decide +kernel) rfl
def mX8_hasName : mM := (yX8_hasName, cX8_hasName, 4, (some .boolean))
theorem lwX8_hasName : mWo mX8_hasName ∈ mTb := mTb_at 607 (by decide +kernel) rfl
theorem loX8_hasName : Cond.instanceMethod yX8_hasName ∈ mTb := mTb_at 605 (by decide +kernel) rfl
theorem lvX8_hasName : Cond.selects RX8 yX8_hasName yX8_hasName ∈ mTb := mTb_at 606 (by decide +kernel) rfl
def mX8_addHouse : mM := (yX8_addHouse, cX8_addHouse, 7, none)
theorem lwX8_addHouse : mWo mX8_addHouse ∈ mTb := mTb_at 615 (by decide +kernel) rfl
theorem loX8_addHouse : Cond.instanceMethod yX8_addHouse ∈ mTb := mTb_at 613 (by decide +kernel) rfl
theorem lvX8_addHouse : Cond.selects RX8 yX8_addHouse yX8_addHouse ∈ mTb := mTb_at 614 (by decide +kernel) rfl
def mX8_unitsOfLaws : mM := (yX8_unitsOfLaws, cX8_unitsOfLaws, 1, (some .int))
theorem lwX8_unitsOfLaws : mWo mX8_unitsOfLaws ∈ mTb := mTb_at 1220 (by decide +kernel) rfl
theorem loX8_unitsOfLaws : Cond.instanceMethod yX8_unitsOfLaws ∈ mTb := mTb_at 1218 (by decide +kernel) rfl
theorem lvX8_unitsOfLaws : Cond.selects RX8 yX8_unitsOfLaws yX8_unitsOfLaws ∈ mTb := mTb_at 1219 (by decide +kernel) rfl
def mX8_begin : mM := (yX8_begin, cX8_begin, 2, none)
theorem lwX8_begin : mWo mX8_begin ∈ mTb := mTb_at 667 (by decide +kernel) rfl
theorem loX8_begin : Cond.instanceMethod yX8_begin ∈ mTb := mTb_at 665 (by decide +kernel) rfl
theorem lvX8_begin : Cond.selects RX8 yX8_begin yX8_begin ∈ mTb := mTb_at 666 (by decide +kernel) rfl
def mX8_stonesOf : mM := (yX8_stonesOf, cX8_stonesOf, 3, (some .int))
theorem lwX8_stonesOf : mWo mX8_stonesOf ∈ mTb := mTb_at 710 (by decide +kernel) rfl
theorem loX8_stonesOf : Cond.instanceMethod yX8_stonesOf ∈ mTb := mTb_at 708 (by decide +kernel) rfl
theorem lvX8_stonesOf : Cond.selects RX8 yX8_stonesOf yX8_stonesOf ∈ mTb := mTb_at 709 (by decide +kernel) rfl
def mX8_stonesHiding : mM := (yX8_stonesHiding, cX8_stonesHiding, 5, (some .int))
theorem lwX8_stonesHiding : mWo mX8_stonesHiding ∈ mTb := mTb_at 714 (by decide +kernel) rfl
theorem loX8_stonesHiding : Cond.instanceMethod yX8_stonesHiding ∈ mTb := mTb_at 712 (by decide +kernel) rfl
theorem lvX8_stonesHiding : Cond.selects RX8 yX8_stonesHiding yX8_stonesHiding ∈ mTb := mTb_at 713 (by decide +kernel) rfl
def mX8_taxOf : mM := (yX8_taxOf, cX8_taxOf, 4, (some .int))
theorem lwX8_taxOf : mWo mX8_taxOf ∈ mTb := mTb_at 741 (by decide +kernel) rfl
theorem loX8_taxOf : Cond.instanceMethod yX8_taxOf ∈ mTb := mTb_at 739 (by decide +kernel) rfl
theorem lvX8_taxOf : Cond.selects RX8 yX8_taxOf yX8_taxOf ∈ mTb := mTb_at 740 (by decide +kernel) rfl
def mX8_passSummer : mM := (yX8_passSummer, cX8_passSummer, 3, none)
theorem lwX8_passSummer : mWo mX8_passSummer ∈ mTb := mTb_at 786 (by decide +kernel) rfl
theorem loX8_passSummer : Cond.instanceMethod yX8_passSummer ∈ mTb := mTb_at 784 (by decide +kernel) rfl
theorem lvX8_passSummer : Cond.selects RX8 yX8_passSummer yX8_passSummer ∈ mTb := mTb_at 785 (by decide +kernel) rfl
def mX8_sendMagpie : mM := (yX8_sendMagpie, cX8_sendMagpie, 3, none)
theorem lwX8_sendMagpie : mWo mX8_sendMagpie ∈ mTb := mTb_at 791 (by decide +kernel) rfl
theorem loX8_sendMagpie : Cond.instanceMethod yX8_sendMagpie ∈ mTb := mTb_at 790 (by decide +kernel) rfl
theorem lvX8_sendMagpie : Cond.selects RX8 yX8_sendMagpie yX8_sendMagpie ∈ mTb := mTb_sl 29 (by decide +kernel) rfl
def mX8_growHouse : mM := (yX8_growHouse, cX8_growHouse, 5, none)
theorem lwX8_growHouse : mWo mX8_growHouse ∈ mTb := mTb_at 796 (by decide +kernel) rfl
theorem loX8_growHouse : Cond.instanceMethod yX8_growHouse ∈ mTb := mTb_at 795 (by decide +kernel) rfl
theorem lvX8_growHouse : Cond.selects RX8 yX8_growHouse yX8_growHouse ∈ mTb := mTb_sl 30 (by decide +kernel) rfl
def mX8_setValues : mM := (yX8_setValues, cX8_setValues, 7, none)
theorem lwX8_setValues : mWo mX8_setValues ∈ mTb := mTb_at 727 (by decide +kernel) rfl
theorem loX8_setValues : Cond.instanceMethod yX8_setValues ∈ mTb := mTb_at 726 (by decide +kernel) rfl
theorem lvX8_setValues : Cond.selects RX8 yX8_setValues yX8_setValues ∈ mTb := mTb_sl 26 (by decide +kernel) rfl
def mX9_init : mM := (yX9_init, cX9_init, 1, none)
theorem lwX9_init : mWo mX9_init ∈ mTb := mTb_at 312 (by decide +kernel) rfl
theorem loX9_init : Cond.instanceMethod yX9_init ∈ mTb := mTb_at 311 (by decide +kernel) rfl
def mX9_list : mM := (yX9_list, cX9_list, 6, (some .int))
theorem lwX9_list : mWo mX9_list ∈ mTb := mTb_at 1083 (by decide +kernel) rfl
theorem loX9_list : Cond.instanceMethod yX9_list ∈ mTb := mTb_at 1081 (by decide +kernel) rfl
theorem lvX9_list : Cond.selects RX9 yX9_list yX9_list ∈ mTb := mTb_at 1082 (by decide +kernel) rfl
def mX9_setHeads : mM := (yX9_setHeads, cX9_setHeads, 4, none)
theorem lwX9_setHeads : mWo mX9_setHeads ∈ mTb := mTb_at 1099 (by decide +kernel) rfl
theorem loX9_setHeads : Cond.instanceMethod yX9_setHeads ∈ mTb := mTb_at 1097 (by decide +kernel) rfl
theorem lvX9_setHeads : Cond.selects RX9 yX9_setHeads yX9_setHeads ∈ mTb := mTb_at 1098 (by decide +kernel) rfl
def mX10_init : mM := (yX10_init, cX10_init, 1, none)
theorem lwX10_init : mWo mX10_init ∈ mTb := mTb_at 305 (by decide +kernel) rfl
theorem loX10_init : Cond.instanceMethod yX10_init ∈ mTb := mTb_at 304 (by decide +kernel) rfl
def mX10_forget : mM := (yX10_forget, cX10_forget, 1, none)
theorem lwX10_forget : mWo mX10_forget ∈ mTb := mTb_at 690 (by decide +kernel) rfl
theorem loX10_forget : Cond.instanceMethod yX10_forget ∈ mTb := mTb_at 688 (by decide +kernel) rfl
theorem lvX10_forget : Cond.selects RX10 yX10_forget yX10_forget ∈ mTb := mTb_at 689 (by decide +kernel) rfl
def mX10_learn : mM := (yX10_learn, cX10_learn, 5, none)
theorem lwX10_learn : mWo mX10_learn ∈ mTb := mTb_at 1072 (by decide +kernel) rfl
theorem loX10_learn : Cond.instanceMethod yX10_learn ∈ mTb := mTb_at 1070 (by decide +kernel) rfl
theorem lvX10_learn : Cond.selects RX10 yX10_learn yX10_learn ∈ mTb := mTb_at 1071 (by decide +kernel) rfl
def mX10_takeReports : mM := (yX10_takeReports, cX10_takeReports, 5, (some .int))
theorem lwX10_takeReports : mWo mX10_takeReports ∈ mTb := mTb_at 1076 (by decide +kernel) rfl
theorem loX10_takeReports : Cond.instanceMethod yX10_takeReports ∈ mTb := mTb_at 1075 (by decide +kernel) rfl
theorem lvX10_takeReports : Cond.selects RX10 yX10_takeReports yX10_takeReports ∈ mTb := mTb_sl 55 (by decide +kernel) rfl
def mX10_countFrom : mM := (yX10_countFrom, cX10_countFrom, 7, (some .int))
theorem lwX10_countFrom : mWo mX10_countFrom ∈ mTb := mTb_at 1087 (by decide +kernel) rfl
theorem loX10_countFrom : Cond.instanceMethod yX10_countFrom ∈ mTb := mTb_at 1086 (by decide +kernel) rfl
theorem lvX10_countFrom : Cond.selects RX10 yX10_countFrom yX10_countFrom ∈ mTb := mTb_sl 56 (by decide +kernel) rfl
def mX10_lowest : mM := (yX10_lowest, cX10_lowest, 5, (some .int))
theorem lwX10_lowest : mWo mX10_lowest ∈ mTb := mTb_at 1095 (by decide +kernel) rfl
theorem loX10_lowest : Cond.instanceMethod yX10_lowest ∈ mTb := mTb_at 1094 (by decide +kernel) rfl
theorem lvX10_lowest : Cond.selects RX10 yX10_lowest yX10_lowest ∈ mTb := mTb_sl 58 (by decide +kernel) rfl
def mX10_highest : mM := (yX10_highest, cX10_highest, 5, (some .int))
theorem lwX10_highest : mWo mX10_highest ∈ mTb := mTb_at 1091 (by decide +kernel) rfl
theorem loX10_highest : Cond.instanceMethod yX10_highest ∈ mTb := mTb_at 1090 (by decide +kernel) rfl
theorem lvX10_highest : Cond.selects RX10 yX10_highest yX10_highest ∈ mTb := mTb_sl 57 (by decide +kernel) rfl
def mX10_fewestIn : mM := (yX10_fewestIn, cX10_fewestIn, 3, (some .int))
theorem lwX10_fewestIn : mWo mX10_fewestIn ∈ mTb := mTb_at 1107 (by decide +kernel) rfl
theorem loX10_fewestIn : Cond.instanceMethod yX10_fewestIn ∈ mTb := mTb_at 1105 (by decide +kernel) rfl
theorem lvX10_fewestIn : Cond.selects RX10 yX10_fewestIn yX10_fewestIn ∈ mTb := mTb_at 1106 (by decide +kernel) rfl
def mX10_mostIn : mM := (yX10_mostIn, cX10_mostIn, 3, (some .int))
theorem lwX10_mostIn : mWo mX10_mostIn ∈ mTb := mTb_at 1111 (by decide +kernel) rfl
theorem loX10_mostIn : Cond.instanceMethod yX10_mostIn ∈ mTb := mTb_at 1109 (by decide +kernel) rfl
theorem lvX10_mostIn : Cond.selects RX10 yX10_mostIn yX10_mostIn ∈ mTb := mTb_at 1110 (by decide +kernel) rfl
def mX10_leftBySeeing : mM := (yX10_leftBySeeing, cX10_leftBySeeing, 4, (some .int))
theorem lwX10_leftBySeeing : mWo mX10_leftBySeeing ∈ mTb := mTb_at 1162 (by decide +kernel) rfl
theorem loX10_leftBySeeing : Cond.instanceMethod yX10_leftBySeeing ∈ mTb := mTb_at 1160 (by decide +kernel) rfl
theorem lvX10_leftBySeeing : Cond.selects RX10 yX10_leftBySeeing yX10_leftBySeeing ∈ mTb := mTb_at 1161 (by decide +kernel) rfl
def mX10_bestToSee : mM := (yX10_bestToSee, cX10_bestToSee, 3, (some .int))
theorem lwX10_bestToSee : mWo mX10_bestToSee ∈ mTb := mTb_at 1158 (by decide +kernel) rfl
theorem loX10_bestToSee : Cond.instanceMethod yX10_bestToSee ∈ mTb := mTb_at 1156 (by decide +kernel) rfl
theorem lvX10_bestToSee : Cond.selects RX10 yX10_bestToSee yX10_bestToSee ∈ mTb := mTb_at 1157 (by decide +kernel) rfl
def mX10_tellingSet : mM := (yX10_tellingSet, cX10_tellingSet, 1, (some .int))
theorem lwX10_tellingSet : mWo mX10_tellingSet ∈ mTb := mTb_at 1171 (by decide +kernel) rfl
theorem loX10_tellingSet : Cond.instanceMethod yX10_tellingSet ∈ mTb := mTb_at 1169 (by decide +kernel) rfl
theorem lvX10_tellingSet : Cond.selects RX10 yX10_tellingSet yX10_tellingSet ∈ mTb := mTb_at 1170 (by decide +kernel) rfl
def mX10_findTelling : mM := (yX10_findTelling, cX10_findTelling, 4, (some .int))
theorem lwX10_findTelling : mWo mX10_findTelling ∈ mTb := mTb_at 1175 (by decide +kernel) rfl
theorem loX10_findTelling : Cond.instanceMethod yX10_findTelling ∈ mTb := mTb_at 1174 (by decide +kernel) rfl
theorem lvX10_findTelling : Cond.selects RX10 yX10_findTelling yX10_findTelling ∈ mTb := mTb_sl 64 (by decide +kernel) rfl
def mX10_gatherFrom : mM := (yX10_gatherFrom, cX10_gatherFrom, 5, none)
theorem lwX10_gatherFrom : mWo mX10_gatherFrom ∈ mTb := mTb_at 1179 (by decide +kernel) rfl
theorem loX10_gatherFrom : Cond.instanceMethod yX10_gatherFrom ∈ mTb := mTb_at 1178 (by decide +kernel) rfl
theorem lvX10_gatherFrom : Cond.selects RX10 yX10_gatherFrom yX10_gatherFrom ∈ mTb := mTb_sl 65 (by decide +kernel) rfl
def mX10_tellsApart : mM := (yX10_tellsApart, cX10_tellsApart, 4, (some .boolean))
theorem lwX10_tellsApart : mWo mX10_tellsApart ∈ mTb := mTb_at 1184 (by decide +kernel) rfl
theorem loX10_tellsApart : Cond.instanceMethod yX10_tellsApart ∈ mTb := mTb_at 1183 (by decide +kernel) rfl
theorem lvX10_tellsApart : Cond.selects RX10 yX10_tellsApart yX10_tellsApart ∈ mTb := mTb_sl 66 (by decide +kernel) rfl
def mX10_partOf : mM := (yX10_partOf, cX10_partOf, 5, (some .int))
theorem lwX10_partOf : mWo mX10_partOf ∈ mTb := mTb_at 1188 (by decide +kernel) rfl
theorem loX10_partOf : Cond.instanceMethod yX10_partOf ∈ mTb := mTb_at 1187 (by decide +kernel) rfl
theorem lvX10_partOf : Cond.selects RX10 yX10_partOf yX10_partOf ∈ mTb := mTb_sl 67 (by decide +kernel) rfl
def mX11_init : mM := (yX11_init, cX11_init, 1, none)
theorem lwX11_init : mWo mX11_init ∈ mTb := mTb_at 26 (by decide +kernel) rfl
theorem loX11_init : Cond.instanceMethod yX11_init ∈ mTb := mTb_at 25 (by decide +kernel) rfl
def mX11_feed : mM := (yX11_feed, cX11_feed, 6, (some .int))
theorem lwX11_feed : mWo mX11_feed ∈ mTb := mTb_at 467 (by decide +kernel) rfl
theorem loX11_feed : Cond.instanceMethod yX11_feed ∈ mTb := mTb_at 465 (by decide +kernel) rfl
theorem lvX11_feed : Cond.selects RX11 yX11_feed yX11_feed ∈ mTb := mTb_at 466 (by decide +kernel) rfl
def mX11_end : mM := (yX11_end, cX11_end, 2, (some .int))
theorem lwX11_end : mWo mX11_end ∈ mTb := mTb_at 475 (by decide +kernel) rfl
theorem loX11_end : Cond.instanceMethod yX11_end ∈ mTb := mTb_at 473 (by decide +kernel) rfl
theorem lvX11_end : Cond.selects RX11 yX11_end yX11_end ∈ mTb := mTb_at 474 (by decide +kernel) rfl
def mX11_province : mM := (yX11_province, cX11_province, 3, (some .int))
theorem lwX11_province : mWo mX11_province ∈ mTb := mTb_at 479 (by decide +kernel) rfl
theorem loX11_province : Cond.instanceMethod yX11_province ∈ mTb := mTb_at 477 (by decide +kernel) rfl
theorem lvX11_province : Cond.selects RX11 yX11_province yX11_province ∈ mTb := mTb_at 478 (by decide +kernel) rfl
def mX11_fault : mM := (yX11_fault, cX11_fault, 2, (some .int))
theorem lwX11_fault : mWo mX11_fault ∈ mTb := mTb_at 698 (by decide +kernel) rfl
theorem loX11_fault : Cond.instanceMethod yX11_fault ∈ mTb := mTb_at 696 (by decide +kernel) rfl
theorem lvX11_fault : Cond.selects RX11 yX11_fault yX11_fault ∈ mTb := mTb_at 697 (by decide +kernel) rfl
def mX11_house : mM := (yX11_house, cX11_house, 3, (some .int))
theorem lwX11_house : mWo mX11_house ∈ mTb := mTb_at 702 (by decide +kernel) rfl
theorem loX11_house : Cond.instanceMethod yX11_house ∈ mTb := mTb_at 700 (by decide +kernel) rfl
theorem lvX11_house : Cond.selects RX11 yX11_house yX11_house ∈ mTb := mTb_at 701 (by decide +kernel) rfl
def mX11_sum : mM := (yX11_sum, cX11_sum, 2, (some .int))
theorem lwX11_sum : mWo mX11_sum ∈ mTb := mTb_at 745 (by decide +kernel) rfl
theorem loX11_sum : Cond.instanceMethod yX11_sum ∈ mTb := mTb_at 743 (by decide +kernel) rfl
theorem lvX11_sum : Cond.selects RX11 yX11_sum yX11_sum ∈ mTb := mTb_at 744 (by decide +kernel) rfl
def mX11_comes : mM := (yX11_comes, cX11_comes, 2, (some .int))
theorem lwX11_comes : mWo mX11_comes ∈ mTb := mTb_at 754 (by decide +kernel) rfl
theorem loX11_comes : Cond.instanceMethod yX11_comes ∈ mTb := mTb_at 752 (by decide +kernel) rfl
theorem lvX11_comes : Cond.selects RX11 yX11_comes yX11_comes ∈ mTb := mTb_at 753 (by decide +kernel) rfl
def mX11_goes : mM := (yX11_goes, cX11_goes, 2, (some .int))
theorem lwX11_goes : mWo mX11_goes ∈ mTb := mTb_at 762 (by decide +kernel) rfl
theorem loX11_goes : Cond.instanceMethod yX11_goes ∈ mTb := mTb_at 760 (by decide +kernel) rfl
theorem lvX11_goes : Cond.selects RX11 yX11_goes yX11_goes ∈ mTb := mTb_at 761 (by decide +kernel) rfl
def mX11_moves : mM := (yX11_moves, cX11_moves, 3, (some .int))
theorem lwX11_moves : mWo mX11_moves ∈ mTb := mTb_at 770 (by decide +kernel) rfl
theorem loX11_moves : Cond.instanceMethod yX11_moves ∈ mTb := mTb_at 768 (by decide +kernel) rfl
theorem lvX11_moves : Cond.selects RX11 yX11_moves yX11_moves ∈ mTb := mTb_at 769 (by decide +kernel) rfl
def mX11_hide : mM := (yX11_hide, cX11_hide, 4, (some .int))
theorem lwX11_hide : mWo mX11_hide ∈ mTb := mTb_at 774 (by decide +kernel) rfl
theorem loX11_hide : Cond.instanceMethod yX11_hide ∈ mTb := mTb_at 772 (by decide +kernel) rfl
theorem lvX11_hide : Cond.selects RX11 yX11_hide yX11_hide ∈ mTb := mTb_at 773 (by decide +kernel) rfl
def mX11_steal : mM := (yX11_steal, cX11_steal, 3, (some .int))
theorem lwX11_steal : mWo mX11_steal ∈ mTb := mTb_at 778 (by decide +kernel) rfl
theorem loX11_steal : Cond.instanceMethod yX11_steal ∈ mTb := mTb_at 776 (by decide +kernel) rfl
theorem lvX11_steal : Cond.selects RX11 yX11_steal yX11_steal ∈ mTb := mTb_at 777 (by decide +kernel) rfl
def mX11_summer : mM := (yX11_summer, cX11_summer, 1, (some .int))
theorem lwX11_summer : mWo mX11_summer ∈ mTb := mTb_at 782 (by decide +kernel) rfl
theorem loX11_summer : Cond.instanceMethod yX11_summer ∈ mTb := mTb_at 780 (by decide +kernel) rfl
theorem lvX11_summer : Cond.selects RX11 yX11_summer yX11_summer ∈ mTb := mTb_at 781 (by decide +kernel) rfl
def mX11_undo : mM := (yX11_undo, cX11_undo, 1, (some .boolean))
theorem lwX11_undo : mWo mX11_undo ∈ mTb := mTb_at 804 (by decide +kernel) rfl
theorem loX11_undo : Cond.instanceMethod yX11_undo ∈ mTb := mTb_at 802 (by decide +kernel) rfl
theorem lvX11_undo : Cond.selects RX11 yX11_undo yX11_undo ∈ mTb := mTb_at 803 (by decide +kernel) rfl
def mX11_redo : mM := (yX11_redo, cX11_redo, 1, (some .boolean))
theorem lwX11_redo : mWo mX11_redo ∈ mTb := mTb_at 816 (by decide +kernel) rfl
theorem loX11_redo : Cond.instanceMethod yX11_redo ∈ mTb := mTb_at 814 (by decide +kernel) rfl
theorem lvX11_redo : Cond.selects RX11 yX11_redo yX11_redo ∈ mTb := mTb_at 815 (by decide +kernel) rfl
def mX11_falses : mM := (yX11_falses, cX11_falses, 3, (some .int))
theorem lwX11_falses : mWo mX11_falses ∈ mTb := mTb_at 824 (by decide +kernel) rfl
theorem loX11_falses : Cond.instanceMethod yX11_falses ∈ mTb := mTb_at 822 (by decide +kernel) rfl
theorem lvX11_falses : Cond.selects RX11 yX11_falses yX11_falses ∈ mTb := mTb_at 823 (by decide +kernel) rfl
def mX11_will : mM := (yX11_will, cX11_will, 3, (some .int))
theorem lwX11_will : mWo mX11_will ∈ mTb := mTb_at 828 (by decide +kernel) rfl
theorem loX11_will : Cond.instanceMethod yX11_will ∈ mTb := mTb_at 826 (by decide +kernel) rfl
theorem lvX11_will : Cond.selects RX11 yX11_will yX11_will ∈ mTb := mTb_at 827 (by decide +kernel) rfl
def mX11_bowls : mM := (yX11_bowls, cX11_bowls, 2, (some .int))
theorem lwX11_bowls : mWo mX11_bowls ∈ mTb := mTb_at 840 (by decide +kernel) rfl
theorem loX11_bowls : Cond.instanceMethod yX11_bowls ∈ mTb := mTb_at 838 (by decide +kernel) rfl
theorem lvX11_bowls : Cond.selects RX11 yX11_bowls yX11_bowls ∈ mTb := mTb_at 839 (by decide +kernel) rfl
def mX11_leave : mM := (yX11_leave, cX11_leave, 3, (some .int))
theorem lwX11_leave : mWo mX11_leave ∈ mTb := mTb_at 844 (by decide +kernel) rfl
theorem loX11_leave : Cond.instanceMethod yX11_leave ∈ mTb := mTb_at 842 (by decide +kernel) rfl
theorem lvX11_leave : Cond.selects RX11 yX11_leave yX11_leave ∈ mTb := mTb_at 843 (by decide +kernel) rfl
def mX11_least : mM := (yX11_least, cX11_least, 1, (some .int))
theorem lwX11_least : mWo mX11_least ∈ mTb := mTb_at 884 (by decide +kernel) rfl
theorem loX11_least : Cond.instanceMethod yX11_least ∈ mTb := mTb_at 882 (by decide +kernel) rfl
theorem lvX11_least : Cond.selects RX11 yX11_least yX11_least ∈ mTb := mTb_at 883 (by decide +kernel) rfl
def mX11_rounds : mM := (yX11_rounds, cX11_rounds, 3, (some .int))
theorem lwX11_rounds : mWo mX11_rounds ∈ mTb := mTb_at 892 (by decide +kernel) rfl
theorem loX11_rounds : Cond.instanceMethod yX11_rounds ∈ mTb := mTb_at 890 (by decide +kernel) rfl
theorem lvX11_rounds : Cond.selects RX11 yX11_rounds yX11_rounds ∈ mTb := mTb_at 891 (by decide +kernel) rfl
def mX11_noon : mM := (yX11_noon, cX11_noon, 2, (some .int))
theorem lwX11_noon : mWo mX11_noon ∈ mTb := mTb_at 919 (by decide +kernel) rfl
theorem loX11_noon : Cond.instanceMethod yX11_noon ∈ mTb := mTb_at 917 (by decide +kernel) rfl
theorem lvX11_noon : Cond.selects RX11 yX11_noon yX11_noon ∈ mTb := mTb_at 918 (by decide +kernel) rfl
def mX11_missed : mM := (yX11_missed, cX11_missed, 5, (some .int))
theorem lwX11_missed : mWo mX11_missed ∈ mTb := mTb_at 933 (by decide +kernel) rfl
theorem loX11_missed : Cond.instanceMethod yX11_missed ∈ mTb := mTb_at 931 (by decide +kernel) rfl
theorem lvX11_missed : Cond.selects RX11 yX11_missed yX11_missed ∈ mTb := mTb_at 932 (by decide +kernel) rfl
def mX11_doubled : mM := (yX11_doubled, cX11_doubled, 5, (some .int))
theorem lwX11_doubled : mWo mX11_doubled ∈ mTb := mTb_at 937 (by decide +kernel) rfl
theorem loX11_doubled : Cond.instanceMethod yX11_doubled ∈ mTb := mTb_at 935 (by decide +kernel) rfl
theorem lvX11_doubled : Cond.selects RX11 yX11_doubled yX11_doubled ∈ mTb := mTb_at 936 (by decide +kernel) rfl
def mX11_seats : mM := (yX11_seats, cX11_seats, 4, (some .int))
theorem lwX11_seats : mWo mX11_seats ∈ mTb := mTb_at 941 (by decide +kernel) rfl
theorem loX11_seats : Cond.instanceMethod yX11_seats ∈ mTb := mTb_at 939 (by decide +kernel) rfl
theorem lvX11_seats : Cond.selects RX11 yX11_seats yX11_seats ∈ mTb := mTb_at 940 (by decide +kernel) rfl
def mX11_stone : mM := (yX11_stone, cX11_stone, 3, (some .int))
theorem lwX11_stone : mWo mX11_stone ∈ mTb := mTb_at 966 (by decide +kernel) rfl
theorem loX11_stone : Cond.instanceMethod yX11_stone ∈ mTb := mTb_at 964 (by decide +kernel) rfl
theorem lvX11_stone : Cond.selects RX11 yX11_stone yX11_stone ∈ mTb := mTb_at 965 (by decide +kernel) rfl
def mX11_loss : mM := (yX11_loss, cX11_loss, 4, (some .int))
theorem lwX11_loss : mWo mX11_loss ∈ mTb := mTb_at 979 (by decide +kernel) rfl
theorem loX11_loss : Cond.instanceMethod yX11_loss ∈ mTb := mTb_at 977 (by decide +kernel) rfl
theorem lvX11_loss : Cond.selects RX11 yX11_loss yX11_loss ∈ mTb := mTb_at 978 (by decide +kernel) rfl
def mX11_draft : mM := (yX11_draft, cX11_draft, 4, (some .int))
theorem lwX11_draft : mWo mX11_draft ∈ mTb := mTb_at 987 (by decide +kernel) rfl
theorem loX11_draft : Cond.instanceMethod yX11_draft ∈ mTb := mTb_at 985 (by decide +kernel) rfl
theorem lvX11_draft : Cond.selects RX11 yX11_draft yX11_draft ∈ mTb := mTb_at 986 (by decide +kernel) rfl
def mX11_chase : mM := (yX11_chase, cX11_chase, 2, (some .int))
theorem lwX11_chase : mWo mX11_chase ∈ mTb := mTb_at 996 (by decide +kernel) rfl
theorem loX11_chase : Cond.instanceMethod yX11_chase ∈ mTb := mTb_at 994 (by decide +kernel) rfl
theorem lvX11_chase : Cond.selects RX11 yX11_chase yX11_chase ∈ mTb := mTb_at 995 (by decide +kernel) rfl
def mX11_marks : mM := (yX11_marks, cX11_marks, 7, (some .int))
theorem lwX11_marks : mWo mX11_marks ∈ mTb := mTb_at 1031 (by decide +kernel) rfl
theorem loX11_marks : Cond.instanceMethod yX11_marks ∈ mTb := mTb_at 1029 (by decide +kernel) rfl
theorem lvX11_marks : Cond.selects RX11 yX11_marks yX11_marks ∈ mTb := mTb_at 1030 (by decide +kernel) rfl
def mX11_lies : mM := (yX11_lies, cX11_lies, 2, (some .int))
theorem lwX11_lies : mWo mX11_lies ∈ mTb := mTb_at 1035 (by decide +kernel) rfl
theorem loX11_lies : Cond.instanceMethod yX11_lies ∈ mTb := mTb_at 1033 (by decide +kernel) rfl
theorem lvX11_lies : Cond.selects RX11 yX11_lies yX11_lies ∈ mTb := mTb_at 1034 (by decide +kernel) rfl
def mX11_report : mM := (yX11_report, cX11_report, 4, (some .int))
theorem lwX11_report : mWo mX11_report ∈ mTb := mTb_at 1039 (by decide +kernel) rfl
theorem loX11_report : Cond.instanceMethod yX11_report ∈ mTb := mTb_at 1037 (by decide +kernel) rfl
theorem lvX11_report : Cond.selects RX11 yX11_report yX11_report ∈ mTb := mTb_at 1038 (by decide +kernel) rfl
def mX11_untell : mM := (yX11_untell, cX11_untell, 2, (some .boolean))
theorem lwX11_untell : mWo mX11_untell ∈ mTb := mTb_at 1047 (by decide +kernel) rfl
theorem loX11_untell : Cond.instanceMethod yX11_untell ∈ mTb := mTb_at 1045 (by decide +kernel) rfl
theorem lvX11_untell : Cond.selects RX11 yX11_untell yX11_untell ∈ mTb := mTb_at 1046 (by decide +kernel) rfl
def mX11_later : mM := (yX11_later, cX11_later, 2, (some .int))
theorem lwX11_later : mWo mX11_later ∈ mTb := mTb_at 1055 (by decide +kernel) rfl
theorem loX11_later : Cond.instanceMethod yX11_later ∈ mTb := mTb_at 1053 (by decide +kernel) rfl
theorem lvX11_later : Cond.selects RX11 yX11_later yX11_later ∈ mTb := mTb_at 1054 (by decide +kernel) rfl
def mX11_truths : mM := (yX11_truths, cX11_truths, 2, (some .int))
theorem lwX11_truths : mWo mX11_truths ∈ mTb := mTb_at 1060 (by decide +kernel) rfl
theorem loX11_truths : Cond.instanceMethod yX11_truths ∈ mTb := mTb_at 1058 (by decide +kernel) rfl
theorem lvX11_truths : Cond.selects RX11 yX11_truths yX11_truths ∈ mTb := mTb_at 1059 (by decide +kernel) rfl
def mX11_range : mM := (yX11_range, cX11_range, 4, (some .int))
theorem lwX11_range : mWo mX11_range ∈ mTb := mTb_at 1103 (by decide +kernel) rfl
theorem loX11_range : Cond.instanceMethod yX11_range ∈ mTb := mTb_at 1101 (by decide +kernel) rfl
theorem lvX11_range : Cond.selects RX11 yX11_range yX11_range ∈ mTb := mTb_at 1102 (by decide +kernel) rfl
def mX11_liars : mM := (yX11_liars, cX11_liars, 2, (some .int))
theorem lwX11_liars : mWo mX11_liars ∈ mTb := mTb_at 1115 (by decide +kernel) rfl
theorem loX11_liars : Cond.instanceMethod yX11_liars ∈ mTb := mTb_at 1113 (by decide +kernel) rfl
theorem lvX11_liars : Cond.selects RX11 yX11_liars yX11_liars ∈ mTb := mTb_at 1114 (by decide +kernel) rfl
def mX11_knock : mM := (yX11_knock, cX11_knock, 4, (some .int))
theorem lwX11_knock : mWo mX11_knock ∈ mTb := mTb_at 1154 (by decide +kernel) rfl
theorem loX11_knock : Cond.instanceMethod yX11_knock ∈ mTb := mTb_at 1152 (by decide +kernel) rfl
theorem lvX11_knock : Cond.selects RX11 yX11_knock yX11_knock ∈ mTb := mTb_at 1153 (by decide +kernel) rfl
def mX11_tells : mM := (yX11_tells, cX11_tells, 4, (some .int))
theorem lwX11_tells : mWo mX11_tells ∈ mTb := mTb_at 1167 (by decide +kernel) rfl
theorem loX11_tells : Cond.instanceMethod yX11_tells ∈ mTb := mTb_at 1165 (by decide +kernel) rfl
theorem lvX11_tells : Cond.selects RX11 yX11_tells yX11_tells ∈ mTb := mTb_at 1166 (by decide +kernel) rfl
def mX11_odds : mM := (yX11_odds, cX11_odds, 6, (some .int))
theorem lwX11_odds : mWo mX11_odds ∈ mTb := mTb_at 1193 (by decide +kernel) rfl
theorem loX11_odds : Cond.instanceMethod yX11_odds ∈ mTb := mTb_at 1191 (by decide +kernel) rfl
theorem lvX11_odds : Cond.selects RX11 yX11_odds yX11_odds ∈ mTb := mTb_at 1192 (by decide +kernel) rfl
def mX11_image : mM := (yX11_image, cX11_image, 2, (some .int))
theorem lwX11_image : mWo mX11_image ∈ mTb := mTb_at 1200 (by decide +kernel) rfl
theorem loX11_image : Cond.instanceMethod yX11_image ∈ mTb := mTb_at 1198 (by decide +kernel) rfl
theorem lvX11_image : Cond.selects RX11 yX11_image yX11_image ∈ mTb := mTb_at 1199 (by decide +kernel) rfl
def mX11_back : mM := (yX11_back, cX11_back, 2, (some .int))
theorem lwX11_back : mWo mX11_back ∈ mTb := mTb_at 1208 (by decide +kernel) rfl
theorem loX11_back : Cond.instanceMethod yX11_back ∈ mTb := mTb_at 1206 (by decide +kernel) rfl
theorem lvX11_back : Cond.selects RX11 yX11_back yX11_back ∈ mTb := mTb_at 1207 (by decide +kernel) rfl
def mX11_about : mM := (yX11_about, cX11_about, 2, (some .int))
theorem lwX11_about : mWo mX11_about ∈ mTb := mTb_at 1216 (by decide +kernel) rfl
theorem loX11_about : Cond.instanceMethod yX11_about ∈ mTb := mTb_at 1214 (by decide +kernel) rfl
theorem lvX11_about : Cond.selects RX11 yX11_about yX11_about ∈ mTb := mTb_at 1215 (by decide +kernel) rfl
def mX11_isHouse : mM := (yX11_isHouse, cX11_isHouse, 2, (some .boolean))
theorem lwX11_isHouse : mWo mX11_isHouse ∈ mTb := mTb_at 706 (by decide +kernel) rfl
theorem loX11_isHouse : Cond.instanceMethod yX11_isHouse ∈ mTb := mTb_at 705 (by decide +kernel) rfl
theorem lvX11_isHouse : Cond.selects RX11 yX11_isHouse yX11_isHouse ∈ mTb := mTb_sl 25 (by decide +kernel) rfl
def mX11_isWithin : mM := (yX11_isWithin, cX11_isWithin, 3, (some .boolean))
theorem lwX11_isWithin : mWo mX11_isWithin ∈ mTb := mTb_at 831 (by decide +kernel) rfl
theorem ltX11_isWithin : Cond.static yX11_isWithin ∈ mTb := mTb_at 830 (by decide +kernel) rfl
def mX11_limited : mM := (yX11_limited, cX11_limited, 3, (some .int))
theorem lwX11_limited : mWo mX11_limited ∈ mTb := mTb_at 717 (by decide +kernel) rfl
theorem ltX11_limited : Cond.static yX11_limited ∈ mTb := mTb_at 716 (by decide +kernel) rfl
def mX11_sumOf : mM := (yX11_sumOf, cX11_sumOf, 4, (some .int))
theorem lwX11_sumOf : mWo mX11_sumOf ∈ mTb := mTb_at 749 (by decide +kernel) rfl
theorem loX11_sumOf : Cond.instanceMethod yX11_sumOf ∈ mTb := mTb_at 748 (by decide +kernel) rfl
theorem lvX11_sumOf : Cond.selects RX11 yX11_sumOf yX11_sumOf ∈ mTb := mTb_sl 27 (by decide +kernel) rfl
def mX11_allBowls : mM := (yX11_allBowls, cX11_allBowls, 4, (some .int))
theorem lwX11_allBowls : mWo mX11_allBowls ∈ mTb := mTb_at 800 (by decide +kernel) rfl
theorem loX11_allBowls : Cond.instanceMethod yX11_allBowls ∈ mTb := mTb_at 799 (by decide +kernel) rfl
theorem lvX11_allBowls : Cond.selects RX11 yX11_allBowls yX11_allBowls ∈ mTb := mTb_sl 31 (by decide +kernel) rfl
def mX11_fullest : mM := (yX11_fullest, cX11_fullest, 4, (some .int))
theorem lwX11_fullest : mWo mX11_fullest ∈ mTb := mTb_at 992 (by decide +kernel) rfl
theorem loX11_fullest : Cond.instanceMethod yX11_fullest ∈ mTb := mTb_at 991 (by decide +kernel) rfl
theorem lvX11_fullest : Cond.selects RX11 yX11_fullest yX11_fullest ∈ mTb := mTb_sl 47 (by decide +kernel) rfl
def mX11_leaveOne : mM := (yX11_leaveOne, cX11_leaveOne, 2, none)
theorem lwX11_leaveOne : mWo mX11_leaveOne ∈ mTb := mTb_at 766 (by decide +kernel) rfl
theorem loX11_leaveOne : Cond.instanceMethod yX11_leaveOne ∈ mTb := mTb_at 765 (by decide +kernel) rfl
theorem lvX11_leaveOne : Cond.selects RX11 yX11_leaveOne yX11_leaveOne ∈ mTb := mTb_sl 28 (by decide +kernel) rfl
def mX11_foresee : mM := (yX11_foresee, cX11_foresee, 3, none)
theorem lwX11_foresee : mWo mX11_foresee ∈ mTb := mTb_at 835 (by decide +kernel) rfl
theorem loX11_foresee : Cond.instanceMethod yX11_foresee ∈ mTb := mTb_at 834 (by decide +kernel) rfl
theorem lvX11_foresee : Cond.selects RX11 yX11_foresee yX11_foresee ∈ mTb := mTb_sl 33 (by decide +kernel) rfl
def mX11_lay : mM := (yX11_lay, cX11_lay, 3, none)
theorem lwX11_lay : mWo mX11_lay ∈ mTb := mTb_at 880 (by decide +kernel) rfl
theorem loX11_lay : Cond.instanceMethod yX11_lay ∈ mTb := mTb_at 879 (by decide +kernel) rfl
theorem lvX11_lay : Cond.selects RX11 yX11_lay yX11_lay ∈ mTb := mTb_sl 38 (by decide +kernel) rfl
def mX11_learn : mM := (yX11_learn, cX11_learn, 2, none)
theorem lwX11_learn : mWo mX11_learn ∈ mTb := mTb_at 1064 (by decide +kernel) rfl
theorem loX11_learn : Cond.instanceMethod yX11_learn ∈ mTb := mTb_at 1063 (by decide +kernel) rfl
theorem lvX11_learn : Cond.selects RX11 yX11_learn yX11_learn ∈ mTb := mTb_sl 54 (by decide +kernel) rfl
def mX11_commonDivisor : mM := (yX11_commonDivisor, cX11_commonDivisor, 6, (some .int))
theorem lwX11_commonDivisor : mWo mX11_commonDivisor ∈ mTb := mTb_at 1196 (by decide +kernel) rfl
theorem ltX11_commonDivisor : Cond.static yX11_commonDivisor ∈ mTb := mTb_at 1195 (by decide +kernel) rfl
def mX12_init : mM := (yX12_init, cX12_init, 1, none)
theorem lwX12_init : mWo mX12_init ∈ mTb := mTb_at 1225 (by decide +kernel) rfl
theorem loX12_init : Cond.instanceMethod yX12_init ∈ mTb := mTb_at 1224 (by decide +kernel) rfl
def mX12_feed : mM := (yX12_feed, cX12_feed, 6, (some .int))
theorem lwX12_feed : mWo mX12_feed ∈ mTb := mTb_at 1451 (by decide +kernel) rfl
theorem loX12_feed : Cond.instanceMethod yX12_feed ∈ mTb := mTb_at 1449 (by decide +kernel) rfl
theorem lvX12_feed : Cond.selects RX12 yX12_feed yX12_feed ∈ mTb := mTb_at 1450 (by decide +kernel) rfl
def mX12_four : mM := (yX12_four, cX12_four, 3, none)
theorem lwX12_four : mWo mX12_four ∈ mTb := mTb_at 1455 (by decide +kernel) rfl
theorem loX12_four : Cond.instanceMethod yX12_four ∈ mTb := mTb_at 1454 (by decide +kernel) rfl
theorem lvX12_four : Cond.selects RX12 yX12_four yX12_four ∈ mTb := mTb_sl 68 (by decide +kernel) rfl
def mX12_end : mM := (yX12_end, cX12_end, 2, (some .int))
theorem lwX12_end : mWo mX12_end ∈ mTb := mTb_at 1459 (by decide +kernel) rfl
theorem loX12_end : Cond.instanceMethod yX12_end ∈ mTb := mTb_at 1457 (by decide +kernel) rfl
theorem lvX12_end : Cond.selects RX12 yX12_end yX12_end ∈ mTb := mTb_at 1458 (by decide +kernel) rfl
def mX12_here : mM := (yX12_here, cX12_here, 2, (some .int))
theorem lwX12_here : mWo mX12_here ∈ mTb := mTb_at 1475 (by decide +kernel) rfl
theorem loX12_here : Cond.instanceMethod yX12_here ∈ mTb := mTb_at 1474 (by decide +kernel) rfl
theorem lvX12_here : Cond.selects RX12 yX12_here yX12_here ∈ mTb := mTb_sl 71 (by decide +kernel) rfl
def mX12_isLetter : mM := (yX12_isLetter, cX12_isLetter, 1, (some .boolean))
theorem lwX12_isLetter : mWo mX12_isLetter ∈ mTb := mTb_at 1478 (by decide +kernel) rfl
theorem ltX12_isLetter : Cond.static yX12_isLetter ∈ mTb := mTb_at 1477 (by decide +kernel) rfl
def mX12_isDigit : mM := (yX12_isDigit, cX12_isDigit, 1, (some .boolean))
theorem lwX12_isDigit : mWo mX12_isDigit ∈ mTb := mTb_at 1481 (by decide +kernel) rfl
theorem ltX12_isDigit : Cond.static yX12_isDigit ∈ mTb := mTb_at 1480 (by decide +kernel) rfl
def mX12_isSign : mM := (yX12_isSign, cX12_isSign, 1, (some .boolean))
theorem lwX12_isSign : mWo mX12_isSign ∈ mTb := mTb_at 1484 (by decide +kernel) rfl
theorem ltX12_isSign : Cond.static yX12_isSign ∈ mTb := mTb_at 1483 (by decide +kernel) rfl
def mX12_token : mM := (yX12_token, cX12_token, 3, none)
theorem lwX12_token : mWo mX12_token ∈ mTb := mTb_at 1471 (by decide +kernel) rfl
theorem loX12_token : Cond.instanceMethod yX12_token ∈ mTb := mTb_at 1470 (by decide +kernel) rfl
theorem lvX12_token : Cond.selects RX12 yX12_token yX12_token ∈ mTb := mTb_sl 70 (by decide +kernel) rfl
def mX12_wrong : mM := (yX12_wrong, cX12_wrong, 2, none)
theorem lwX12_wrong : mWo mX12_wrong ∈ mTb := mTb_at 1523 (by decide +kernel) rfl
theorem loX12_wrong : Cond.instanceMethod yX12_wrong ∈ mTb := mTb_at 1522 (by decide +kernel) rfl
theorem lvX12_wrong : Cond.selects RX12 yX12_wrong yX12_wrong ∈ mTb := mTb_sl 77 (by decide +kernel) rfl
def mX12_isWord : mM := (yX12_isWord, cX12_isWord, 3, (some .boolean))
theorem lwX12_isWord : mWo mX12_isWord ∈ mTb := mTb_at 1493 (by decide +kernel) rfl
theorem loX12_isWord : Cond.instanceMethod yX12_isWord ∈ mTb := mTb_at 1492 (by decide +kernel) rfl
theorem lvX12_isWord : Cond.selects RX12 yX12_isWord yX12_isWord ∈ mTb := mTb_sl 73 (by decide +kernel) rfl
def mX12_isOwn : mM := (yX12_isOwn, cX12_isOwn, 1, (some .boolean))
theorem lwX12_isOwn : mWo mX12_isOwn ∈ mTb := mTb_at 1505 (by decide +kernel) rfl
theorem loX12_isOwn : Cond.instanceMethod yX12_isOwn ∈ mTb := mTb_at 1504 (by decide +kernel) rfl
theorem lvX12_isOwn : Cond.selects RX12 yX12_isOwn yX12_isOwn ∈ mTb := mTb_sl 76 (by decide +kernel) rfl
def mX12_isName : mM := (yX12_isName, cX12_isName, 1, (some .boolean))
theorem lwX12_isName : mWo mX12_isName ∈ mTb := mTb_at 1501 (by decide +kernel) rfl
theorem loX12_isName : Cond.instanceMethod yX12_isName ∈ mTb := mTb_at 1500 (by decide +kernel) rfl
theorem lvX12_isName : Cond.selects RX12 yX12_isName yX12_isName ∈ mTb := mTb_sl 75 (by decide +kernel) rfl
def mX12_want : mM := (yX12_want, cX12_want, 3, none)
theorem lwX12_want : mWo mX12_want ∈ mTb := mTb_at 1535 (by decide +kernel) rfl
theorem loX12_want : Cond.instanceMethod yX12_want ∈ mTb := mTb_at 1534 (by decide +kernel) rfl
theorem lvX12_want : Cond.selects RX12 yX12_want yX12_want ∈ mTb := mTb_sl 80 (by decide +kernel) rfl
def mX12_toldNumber : mM := (yX12_toldNumber, cX12_toldNumber, 4, (some .int))
theorem lwX12_toldNumber : mWo mX12_toldNumber ∈ mTb := mTb_at 1539 (by decide +kernel) rfl
theorem loX12_toldNumber : Cond.instanceMethod yX12_toldNumber ∈ mTb := mTb_at 1538 (by decide +kernel) rfl
theorem lvX12_toldNumber : Cond.selects RX12 yX12_toldNumber yX12_toldNumber ∈ mTb := mTb_sl 81 (by decide +kernel) rfl
def mX12_told : mM := (yX12_told, cX12_told, 5, (some .int))
theorem lwX12_told : mWo mX12_told ∈ mTb := mTb_at 1531 (by decide +kernel) rfl
theorem loX12_told : Cond.instanceMethod yX12_told ∈ mTb := mTb_at 1530 (by decide +kernel) rfl
theorem lvX12_told : Cond.selects RX12 yX12_told yX12_told ∈ mTb := mTb_sl 79 (by decide +kernel) rfl
def mX12_option : mM := (yX12_option, cX12_option, 3, (some .int))
theorem lwX12_option : mWo mX12_option ∈ mTb := mTb_at 1543 (by decide +kernel) rfl
theorem loX12_option : Cond.instanceMethod yX12_option ∈ mTb := mTb_at 1542 (by decide +kernel) rfl
theorem lvX12_option : Cond.selects RX12 yX12_option yX12_option ∈ mTb := mTb_sl 82 (by decide +kernel) rfl
def mX12_find : mM := (yX12_find, cX12_find, 3, (some .int))
theorem lwX12_find : mWo mX12_find ∈ mTb := mTb_at 1527 (by decide +kernel) rfl
theorem loX12_find : Cond.instanceMethod yX12_find ∈ mTb := mTb_at 1526 (by decide +kernel) rfl
theorem lvX12_find : Cond.selects RX12 yX12_find yX12_find ∈ mTb := mTb_sl 78 (by decide +kernel) rfl
def mX12_add : mM := (yX12_add, cX12_add, 3, none)
theorem lwX12_add : mWo mX12_add ∈ mTb := mTb_at 1578 (by decide +kernel) rfl
theorem loX12_add : Cond.instanceMethod yX12_add ∈ mTb := mTb_at 1577 (by decide +kernel) rfl
theorem lvX12_add : Cond.selects RX12 yX12_add yX12_add ∈ mTb := mTb_sl 90 (by decide +kernel) rfl
def mX12_tight : mM := (yX12_tight, cX12_tight, 1, (some .int))
theorem lwX12_tight : mWo mX12_tight ∈ mTb := mTb_at 1558 (by decide +kernel) rfl
theorem ltX12_tight : Cond.static yX12_tight ∈ mTb := mTb_at 1557 (by decide +kernel) rfl
def mX12_close : mM := (yX12_close, cX12_close, 2, none)
theorem lwX12_close : mWo mX12_close ∈ mTb := mTb_at 1590 (by decide +kernel) rfl
theorem loX12_close : Cond.instanceMethod yX12_close ∈ mTb := mTb_at 1589 (by decide +kernel) rfl
theorem lvX12_close : Cond.selects RX12 yX12_close yX12_close ∈ mTb := mTb_sl 93 (by decide +kernel) rfl
def mX12_hasRelation : mM := (yX12_hasRelation, cX12_hasRelation, 2, (some .boolean))
theorem lwX12_hasRelation : mWo mX12_hasRelation ∈ mTb := mTb_at 1594 (by decide +kernel) rfl
theorem loX12_hasRelation : Cond.instanceMethod yX12_hasRelation ∈ mTb := mTb_at 1593 (by decide +kernel) rfl
theorem lvX12_hasRelation : Cond.selects RX12 yX12_hasRelation yX12_hasRelation ∈ mTb := mTb_sl 94 (by decide +kernel) rfl
def mX12_mayNot : mM := (yX12_mayNot, cX12_mayNot, 1, (some .boolean))
theorem lwX12_mayNot : mWo mX12_mayNot ∈ mTb := mTb_at 1555 (by decide +kernel) rfl
theorem loX12_mayNot : Cond.instanceMethod yX12_mayNot ∈ mTb := mTb_at 1554 (by decide +kernel) rfl
theorem lvX12_mayNot : Cond.selects RX12 yX12_mayNot yX12_mayNot ∈ mTb := mTb_sl 85 (by decide +kernel) rfl
def mX12_asked : mM := (yX12_asked, cX12_asked, 1, (some .int))
theorem lwX12_asked : mWo mX12_asked ∈ mTb := mTb_at 1574 (by decide +kernel) rfl
theorem loX12_asked : Cond.instanceMethod yX12_asked ∈ mTb := mTb_at 1573 (by decide +kernel) rfl
theorem lvX12_asked : Cond.selects RX12 yX12_asked yX12_asked ∈ mTb := mTb_sl 89 (by decide +kernel) rfl
def mX12_isFull : mM := (yX12_isFull, cX12_isFull, 1, (some .boolean))
theorem lwX12_isFull : mWo mX12_isFull ∈ mTb := mTb_at 1566 (by decide +kernel) rfl
theorem loX12_isFull : Cond.instanceMethod yX12_isFull ∈ mTb := mTb_at 1565 (by decide +kernel) rfl
theorem lvX12_isFull : Cond.selects RX12 yX12_isFull yX12_isFull ∈ mTb := mTb_sl 87 (by decide +kernel) rfl
def mX12_countUnit : mM := (yX12_countUnit, cX12_countUnit, 1, none)
theorem lwX12_countUnit : mWo mX12_countUnit ∈ mTb := mTb_at 1570 (by decide +kernel) rfl
theorem loX12_countUnit : Cond.instanceMethod yX12_countUnit ∈ mTb := mTb_at 1569 (by decide +kernel) rfl
theorem lvX12_countUnit : Cond.selects RX12 yX12_countUnit yX12_countUnit ∈ mTb := mTb_sl 88 (by decide +kernel) rfl
def mX12_openUp : mM := (yX12_openUp, cX12_openUp, 2, none)
theorem lwX12_openUp : mWo mX12_openUp ∈ mTb := mTb_at 1562 (by decide +kernel) rfl
theorem loX12_openUp : Cond.instanceMethod yX12_openUp ∈ mTb := mTb_at 1561 (by decide +kernel) rfl
theorem lvX12_openUp : Cond.selects RX12 yX12_openUp yX12_openUp ∈ mTb := mTb_sl 86 (by decide +kernel) rfl
def mX12_unit : mM := (yX12_unit, cX12_unit, 3, none)
theorem lwX12_unit : mWo mX12_unit ∈ mTb := mTb_at 1551 (by decide +kernel) rfl
theorem loX12_unit : Cond.instanceMethod yX12_unit ∈ mTb := mTb_at 1550 (by decide +kernel) rfl
theorem lvX12_unit : Cond.selects RX12 yX12_unit yX12_unit ∈ mTb := mTb_sl 84 (by decide +kernel) rfl
def mX12_sign : mM := (yX12_sign, cX12_sign, 1, (some .int))
theorem lwX12_sign : mWo mX12_sign ∈ mTb := mTb_at 1582 (by decide +kernel) rfl
theorem loX12_sign : Cond.instanceMethod yX12_sign ∈ mTb := mTb_at 1581 (by decide +kernel) rfl
theorem lvX12_sign : Cond.selects RX12 yX12_sign yX12_sign ∈ mTb := mTb_sl 91 (by decide +kernel) rfl
def mX12_hasBracket : mM := (yX12_hasBracket, cX12_hasBracket, 3, (some .boolean))
theorem lwX12_hasBracket : mWo mX12_hasBracket ∈ mTb := mTb_at 1586 (by decide +kernel) rfl
theorem loX12_hasBracket : Cond.instanceMethod yX12_hasBracket ∈ mTb := mTb_at 1585 (by decide +kernel) rfl
theorem lvX12_hasBracket : Cond.selects RX12 yX12_hasBracket yX12_hasBracket ∈ mTb := mTb_sl 92 (by decide +kernel) rfl
def mX12_formula : mM := (yX12_formula, cX12_formula, 4, none)
theorem lwX12_formula : mWo mX12_formula ∈ mTb := mTb_at 1547 (by decide +kernel) rfl
theorem loX12_formula : Cond.instanceMethod yX12_formula ∈ mTb := mTb_at 1546 (by decide +kernel) rfl
theorem lvX12_formula : Cond.selects RX12 yX12_formula yX12_formula ∈ mTb := mTb_sl 83 (by decide +kernel) rfl
def mX12_truth : mM := (yX12_truth, cX12_truth, 1, (some .int))
theorem lwX12_truth : mWo mX12_truth ∈ mTb := mTb_at 1628 (by decide +kernel) rfl
theorem ltX12_truth : Cond.static yX12_truth ∈ mTb := mTb_at 1627 (by decide +kernel) rfl
def mX12_done : mM := (yX12_done, cX12_done, 3, (some .int))
theorem lwX12_done : mWo mX12_done ∈ mTb := mTb_at 1631 (by decide +kernel) rfl
theorem ltX12_done : Cond.static yX12_done ∈ mTb := mTb_at 1630 (by decide +kernel) rfl
def mX12_askOf : mM := (yX12_askOf, cX12_askOf, 7, none)
theorem lwX12_askOf : mWo mX12_askOf ∈ mTb := mTb_at 1621 (by decide +kernel) rfl
theorem loX12_askOf : Cond.instanceMethod yX12_askOf ∈ mTb := mTb_at 1620 (by decide +kernel) rfl
theorem lvX12_askOf : Cond.selects RX12 yX12_askOf yX12_askOf ∈ mTb := mTb_sl 98 (by decide +kernel) rfl
def mX12_worked : mM := (yX12_worked, cX12_worked, 4, (some .int))
theorem lwX12_worked : mWo mX12_worked ∈ mTb := mTb_at 1625 (by decide +kernel) rfl
theorem loX12_worked : Cond.instanceMethod yX12_worked ∈ mTb := mTb_at 1624 (by decide +kernel) rfl
theorem lvX12_worked : Cond.selects RX12 yX12_worked yX12_worked ∈ mTb := mTb_sl 99 (by decide +kernel) rfl
def mX12_readHouse : mM := (yX12_readHouse, cX12_readHouse, 2, none)
theorem lwX12_readHouse : mWo mX12_readHouse ∈ mTb := mTb_at 1497 (by decide +kernel) rfl
theorem loX12_readHouse : Cond.instanceMethod yX12_readHouse ∈ mTb := mTb_at 1496 (by decide +kernel) rfl
theorem lvX12_readHouse : Cond.selects RX12 yX12_readHouse yX12_readHouse ∈ mTb := mTb_sl 74 (by decide +kernel) rfl
def mX12_readLine : mM := (yX12_readLine, cX12_readLine, 1, none)
theorem lwX12_readLine : mWo mX12_readLine ∈ mTb := mTb_at 1488 (by decide +kernel) rfl
theorem loX12_readLine : Cond.instanceMethod yX12_readLine ∈ mTb := mTb_at 1487 (by decide +kernel) rfl
theorem lvX12_readLine : Cond.selects RX12 yX12_readLine yX12_readLine ∈ mTb := mTb_sl 72 (by decide +kernel) rfl
def mX12_readAll : mM := (yX12_readAll, cX12_readAll, 2, none)
theorem lwX12_readAll : mWo mX12_readAll ∈ mTb := mTb_at 1467 (by decide +kernel) rfl
theorem loX12_readAll : Cond.instanceMethod yX12_readAll ∈ mTb := mTb_at 1466 (by decide +kernel) rfl
theorem lvX12_readAll : Cond.selects RX12 yX12_readAll yX12_readAll ∈ mTb := mTb_sl 69 (by decide +kernel) rfl
def mX12_province : mM := (yX12_province, cX12_province, 3, (some .int))
theorem lwX12_province : mWo mX12_province ∈ mTb := mTb_at 1463 (by decide +kernel) rfl
theorem loX12_province : Cond.instanceMethod yX12_province ∈ mTb := mTb_at 1461 (by decide +kernel) rfl
theorem lvX12_province : Cond.selects RX12 yX12_province yX12_province ∈ mTb := mTb_at 1462 (by decide +kernel) rfl
def mX12_fault : mM := (yX12_fault, cX12_fault, 2, (some .int))
theorem lwX12_fault : mWo mX12_fault ∈ mTb := mTb_at 1598 (by decide +kernel) rfl
theorem loX12_fault : Cond.instanceMethod yX12_fault ∈ mTb := mTb_at 1596 (by decide +kernel) rfl
theorem lvX12_fault : Cond.selects RX12 yX12_fault yX12_fault ∈ mTb := mTb_at 1597 (by decide +kernel) rfl
def mX12_isIn : mM := (yX12_isIn, cX12_isIn, 3, (some .boolean))
theorem lwX12_isIn : mWo mX12_isIn ∈ mTb := mTb_at 1609 (by decide +kernel) rfl
theorem ltX12_isIn : Cond.static yX12_isIn ∈ mTb := mTb_at 1608 (by decide +kernel) rfl
def mX12_bound : mM := (yX12_bound, cX12_bound, 3, (some .int))
theorem lwX12_bound : mWo mX12_bound ∈ mTb := mTb_at 1634 (by decide +kernel) rfl
theorem ltX12_bound : Cond.static yX12_bound ∈ mTb := mTb_at 1633 (by decide +kernel) rfl
def mX12_isHouse : mM := (yX12_isHouse, cX12_isHouse, 2, (some .boolean))
theorem lwX12_isHouse : mWo mX12_isHouse ∈ mTb := mTb_at 1606 (by decide +kernel) rfl
theorem loX12_isHouse : Cond.instanceMethod yX12_isHouse ∈ mTb := mTb_at 1605 (by decide +kernel) rfl
theorem lvX12_isHouse : Cond.selects RX12 yX12_isHouse yX12_isHouse ∈ mTb := mTb_sl 95 (by decide +kernel) rfl
def mX12_load : mM := (yX12_load, cX12_load, 2, none)
theorem lwX12_load : mWo mX12_load ∈ mTb := mTb_at 1613 (by decide +kernel) rfl
theorem loX12_load : Cond.instanceMethod yX12_load ∈ mTb := mTb_at 1612 (by decide +kernel) rfl
theorem lvX12_load : Cond.selects RX12 yX12_load yX12_load ∈ mTb := mTb_sl 96 (by decide +kernel) rfl
def mX12_keep : mM := (yX12_keep, cX12_keep, 2, none)
theorem lwX12_keep : mWo mX12_keep ∈ mTb := mTb_at 1674 (by decide +kernel) rfl
theorem loX12_keep : Cond.instanceMethod yX12_keep ∈ mTb := mTb_at 1673 (by decide +kernel) rfl
theorem lvX12_keep : Cond.selects RX12 yX12_keep yX12_keep ∈ mTb := mTb_sl 106 (by decide +kernel) rfl
def mX12_stonesOf : mM := (yX12_stonesOf, cX12_stonesOf, 2, (some .int))
theorem lwX12_stonesOf : mWo mX12_stonesOf ∈ mTb := mTb_at 1617 (by decide +kernel) rfl
theorem loX12_stonesOf : Cond.instanceMethod yX12_stonesOf ∈ mTb := mTb_at 1616 (by decide +kernel) rfl
theorem lvX12_stonesOf : Cond.selects RX12 yX12_stonesOf yX12_stonesOf ∈ mTb := mTb_sl 97 (by decide +kernel) rfl
def mX12_taxOf : mM := (yX12_taxOf, cX12_taxOf, 3, (some .int))
theorem lwX12_taxOf : mWo mX12_taxOf ∈ mTb := mTb_at 1642 (by decide +kernel) rfl
theorem loX12_taxOf : Cond.instanceMethod yX12_taxOf ∈ mTb := mTb_at 1641 (by decide +kernel) rfl
theorem lvX12_taxOf : Cond.selects RX12 yX12_taxOf yX12_taxOf ∈ mTb := mTb_sl 101 (by decide +kernel) rfl
def mX12_shows : mM := (yX12_shows, cX12_shows, 2, (some .boolean))
theorem lwX12_shows : mWo mX12_shows ∈ mTb := mTb_at 1638 (by decide +kernel) rfl
theorem loX12_shows : Cond.instanceMethod yX12_shows ∈ mTb := mTb_at 1637 (by decide +kernel) rfl
theorem lvX12_shows : Cond.selects RX12 yX12_shows yX12_shows ∈ mTb := mTb_sl 100 (by decide +kernel) rfl
def mX12_notMoreHidden : mM := (yX12_notMoreHidden, cX12_notMoreHidden, 2, none)
theorem lwX12_notMoreHidden : mWo mX12_notMoreHidden ∈ mTb := mTb_at 1670 (by decide +kernel) rfl
theorem loX12_notMoreHidden : Cond.instanceMethod yX12_notMoreHidden ∈ mTb := mTb_at 1669 (by decide +kernel) rfl
theorem lvX12_notMoreHidden : Cond.selects RX12 yX12_notMoreHidden yX12_notMoreHidden ∈ mTb := mTb_sl 105 (by decide +kernel) rfl
def mX12_goSummer : mM := (yX12_goSummer, cX12_goSummer, 3, none)
theorem lwX12_goSummer : mWo mX12_goSummer ∈ mTb := mTb_at 1694 (by decide +kernel) rfl
theorem loX12_goSummer : Cond.instanceMethod yX12_goSummer ∈ mTb := mTb_at 1693 (by decide +kernel) rfl
theorem lvX12_goSummer : Cond.selects RX12 yX12_goSummer yX12_goSummer ∈ mTb := mTb_sl 107 (by decide +kernel) rfl
def mX12_allBowls : mM := (yX12_allBowls, cX12_allBowls, 3, (some .int))
theorem lwX12_allBowls : mWo mX12_allBowls ∈ mTb := mTb_at 1698 (by decide +kernel) rfl
theorem loX12_allBowls : Cond.instanceMethod yX12_allBowls ∈ mTb := mTb_at 1697 (by decide +kernel) rfl
theorem lvX12_allBowls : Cond.selects RX12 yX12_allBowls yX12_allBowls ∈ mTb := mTb_sl 108 (by decide +kernel) rfl
def mX12_house : mM := (yX12_house, cX12_house, 3, (some .int))
theorem lwX12_house : mWo mX12_house ∈ mTb := mTb_at 1602 (by decide +kernel) rfl
theorem loX12_house : Cond.instanceMethod yX12_house ∈ mTb := mTb_at 1600 (by decide +kernel) rfl
theorem lvX12_house : Cond.selects RX12 yX12_house yX12_house ∈ mTb := mTb_at 1601 (by decide +kernel) rfl
def mX12_partOf : mM := (yX12_partOf, cX12_partOf, 3, (some .int))
theorem lwX12_partOf : mWo mX12_partOf ∈ mTb := mTb_at 1650 (by decide +kernel) rfl
theorem loX12_partOf : Cond.instanceMethod yX12_partOf ∈ mTb := mTb_at 1649 (by decide +kernel) rfl
theorem lvX12_partOf : Cond.selects RX12 yX12_partOf yX12_partOf ∈ mTb := mTb_sl 102 (by decide +kernel) rfl
def mX12_sum : mM := (yX12_sum, cX12_sum, 4, (some .int))
theorem lwX12_sum : mWo mX12_sum ∈ mTb := mTb_at 1646 (by decide +kernel) rfl
theorem loX12_sum : Cond.instanceMethod yX12_sum ∈ mTb := mTb_at 1644 (by decide +kernel) rfl
theorem lvX12_sum : Cond.selects RX12 yX12_sum yX12_sum ∈ mTb := mTb_at 1645 (by decide +kernel) rfl
def mX12_act : mM := (yX12_act, cX12_act, 2, none)
theorem lwX12_act : mWo mX12_act ∈ mTb := mTb_at 1658 (by decide +kernel) rfl
theorem loX12_act : Cond.instanceMethod yX12_act ∈ mTb := mTb_at 1657 (by decide +kernel) rfl
theorem lvX12_act : Cond.selects RX12 yX12_act yX12_act ∈ mTb := mTb_sl 103 (by decide +kernel) rfl
def mX12_exchange : mM := (yX12_exchange, cX12_exchange, 4, none)
theorem lwX12_exchange : mWo mX12_exchange ∈ mTb := mTb_at 1706 (by decide +kernel) rfl
theorem loX12_exchange : Cond.instanceMethod yX12_exchange ∈ mTb := mTb_at 1705 (by decide +kernel) rfl
theorem lvX12_exchange : Cond.selects RX12 yX12_exchange yX12_exchange ∈ mTb := mTb_sl 109 (by decide +kernel) rfl
def mX12_comes : mM := (yX12_comes, cX12_comes, 2, (some .int))
theorem lwX12_comes : mWo mX12_comes ∈ mTb := mTb_at 1654 (by decide +kernel) rfl
theorem loX12_comes : Cond.instanceMethod yX12_comes ∈ mTb := mTb_at 1652 (by decide +kernel) rfl
theorem lvX12_comes : Cond.selects RX12 yX12_comes yX12_comes ∈ mTb := mTb_at 1653 (by decide +kernel) rfl
def mX12_leaves : mM := (yX12_leaves, cX12_leaves, 2, none)
theorem lwX12_leaves : mWo mX12_leaves ∈ mTb := mTb_at 1666 (by decide +kernel) rfl
theorem loX12_leaves : Cond.instanceMethod yX12_leaves ∈ mTb := mTb_at 1665 (by decide +kernel) rfl
theorem lvX12_leaves : Cond.selects RX12 yX12_leaves yX12_leaves ∈ mTb := mTb_sl 104 (by decide +kernel) rfl
def mX12_goes : mM := (yX12_goes, cX12_goes, 2, (some .int))
theorem lwX12_goes : mWo mX12_goes ∈ mTb := mTb_at 1662 (by decide +kernel) rfl
theorem loX12_goes : Cond.instanceMethod yX12_goes ∈ mTb := mTb_at 1660 (by decide +kernel) rfl
theorem lvX12_goes : Cond.selects RX12 yX12_goes yX12_goes ∈ mTb := mTb_at 1661 (by decide +kernel) rfl
def mX12_moves : mM := (yX12_moves, cX12_moves, 3, (some .int))
theorem lwX12_moves : mWo mX12_moves ∈ mTb := mTb_at 1678 (by decide +kernel) rfl
theorem loX12_moves : Cond.instanceMethod yX12_moves ∈ mTb := mTb_at 1676 (by decide +kernel) rfl
theorem lvX12_moves : Cond.selects RX12 yX12_moves yX12_moves ∈ mTb := mTb_at 1677 (by decide +kernel) rfl
def mX12_hide : mM := (yX12_hide, cX12_hide, 4, (some .int))
theorem lwX12_hide : mWo mX12_hide ∈ mTb := mTb_at 1682 (by decide +kernel) rfl
theorem loX12_hide : Cond.instanceMethod yX12_hide ∈ mTb := mTb_at 1680 (by decide +kernel) rfl
theorem lvX12_hide : Cond.selects RX12 yX12_hide yX12_hide ∈ mTb := mTb_at 1681 (by decide +kernel) rfl
def mX12_steal : mM := (yX12_steal, cX12_steal, 3, (some .int))
theorem lwX12_steal : mWo mX12_steal ∈ mTb := mTb_at 1686 (by decide +kernel) rfl
theorem loX12_steal : Cond.instanceMethod yX12_steal ∈ mTb := mTb_at 1684 (by decide +kernel) rfl
theorem lvX12_steal : Cond.selects RX12 yX12_steal yX12_steal ∈ mTb := mTb_at 1685 (by decide +kernel) rfl
def mX12_summer : mM := (yX12_summer, cX12_summer, 1, (some .int))
theorem lwX12_summer : mWo mX12_summer ∈ mTb := mTb_at 1690 (by decide +kernel) rfl
theorem loX12_summer : Cond.instanceMethod yX12_summer ∈ mTb := mTb_at 1688 (by decide +kernel) rfl
theorem lvX12_summer : Cond.selects RX12 yX12_summer yX12_summer ∈ mTb := mTb_at 1689 (by decide +kernel) rfl
def mX12_undo : mM := (yX12_undo, cX12_undo, 1, (some .boolean))
theorem lwX12_undo : mWo mX12_undo ∈ mTb := mTb_at 1702 (by decide +kernel) rfl
theorem loX12_undo : Cond.instanceMethod yX12_undo ∈ mTb := mTb_at 1700 (by decide +kernel) rfl
theorem lvX12_undo : Cond.selects RX12 yX12_undo yX12_undo ∈ mTb := mTb_at 1701 (by decide +kernel) rfl
def mX12_redo : mM := (yX12_redo, cX12_redo, 1, (some .boolean))
theorem lwX12_redo : mWo mX12_redo ∈ mTb := mTb_at 1710 (by decide +kernel) rfl
theorem loX12_redo : Cond.instanceMethod yX12_redo ∈ mTb := mTb_at 1708 (by decide +kernel) rfl
theorem lvX12_redo : Cond.selects RX12 yX12_redo yX12_redo ∈ mTb := mTb_at 1709 (by decide +kernel) rfl
def mX12_falses : mM := (yX12_falses, cX12_falses, 3, (some .int))
theorem lwX12_falses : mWo mX12_falses ∈ mTb := mTb_at 1714 (by decide +kernel) rfl
theorem loX12_falses : Cond.instanceMethod yX12_falses ∈ mTb := mTb_at 1712 (by decide +kernel) rfl
theorem lvX12_falses : Cond.selects RX12 yX12_falses yX12_falses ∈ mTb := mTb_at 1713 (by decide +kernel) rfl
def mX12_goFar : mM := (yX12_goFar, cX12_goFar, 3, none)
theorem lwX12_goFar : mWo mX12_goFar ∈ mTb := mTb_at 1722 (by decide +kernel) rfl
theorem loX12_goFar : Cond.instanceMethod yX12_goFar ∈ mTb := mTb_at 1721 (by decide +kernel) rfl
theorem lvX12_goFar : Cond.selects RX12 yX12_goFar yX12_goFar ∈ mTb := mTb_sl 110 (by decide +kernel) rfl
def mX12_will : mM := (yX12_will, cX12_will, 3, (some .int))
theorem lwX12_will : mWo mX12_will ∈ mTb := mTb_at 1718 (by decide +kernel) rfl
theorem loX12_will : Cond.instanceMethod yX12_will ∈ mTb := mTb_at 1716 (by decide +kernel) rfl
theorem lvX12_will : Cond.selects RX12 yX12_will yX12_will ∈ mTb := mTb_at 1717 (by decide +kernel) rfl
def mX12_bowls : mM := (yX12_bowls, cX12_bowls, 2, (some .int))
theorem lwX12_bowls : mWo mX12_bowls ∈ mTb := mTb_at 1726 (by decide +kernel) rfl
theorem loX12_bowls : Cond.instanceMethod yX12_bowls ∈ mTb := mTb_at 1724 (by decide +kernel) rfl
theorem lvX12_bowls : Cond.selects RX12 yX12_bowls yX12_bowls ∈ mTb := mTb_at 1725 (by decide +kernel) rfl
def mX12_layTaxes : mM := (yX12_layTaxes, cX12_layTaxes, 3, none)
theorem lwX12_layTaxes : mWo mX12_layTaxes ∈ mTb := mTb_at 1734 (by decide +kernel) rfl
theorem loX12_layTaxes : Cond.instanceMethod yX12_layTaxes ∈ mTb := mTb_at 1733 (by decide +kernel) rfl
theorem lvX12_layTaxes : Cond.selects RX12 yX12_layTaxes yX12_layTaxes ∈ mTb := mTb_sl 111 (by decide +kernel) rfl
def mX12_rowsOf : mM := (yX12_rowsOf, cX12_rowsOf, 3, (some .int))
theorem lwX12_rowsOf : mWo mX12_rowsOf ∈ mTb := mTb_at 1738 (by decide +kernel) rfl
theorem loX12_rowsOf : Cond.instanceMethod yX12_rowsOf ∈ mTb := mTb_at 1737 (by decide +kernel) rfl
theorem lvX12_rowsOf : Cond.selects RX12 yX12_rowsOf yX12_rowsOf ∈ mTb := mTb_sl 112 (by decide +kernel) rfl
def mX12_taxOfRow : mM := (yX12_taxOfRow, cX12_taxOfRow, 6, (some .int))
theorem lwX12_taxOfRow : mWo mX12_taxOfRow ∈ mTb := mTb_at 1742 (by decide +kernel) rfl
theorem loX12_taxOfRow : Cond.instanceMethod yX12_taxOfRow ∈ mTb := mTb_at 1741 (by decide +kernel) rfl
theorem lvX12_taxOfRow : Cond.selects RX12 yX12_taxOfRow yX12_taxOfRow ∈ mTb := mTb_sl 113 (by decide +kernel) rfl
def mX12_leave : mM := (yX12_leave, cX12_leave, 7, (some .int))
theorem lwX12_leave : mWo mX12_leave ∈ mTb := mTb_at 1730 (by decide +kernel) rfl
theorem loX12_leave : Cond.instanceMethod yX12_leave ∈ mTb := mTb_at 1728 (by decide +kernel) rfl
theorem lvX12_leave : Cond.selects RX12 yX12_leave yX12_leave ∈ mTb := mTb_at 1729 (by decide +kernel) rfl
def mX12_least : mM := (yX12_least, cX12_least, 5, (some .int))
theorem lwX12_least : mWo mX12_least ∈ mTb := mTb_at 1746 (by decide +kernel) rfl
theorem loX12_least : Cond.instanceMethod yX12_least ∈ mTb := mTb_at 1744 (by decide +kernel) rfl
theorem lvX12_least : Cond.selects RX12 yX12_least yX12_least ∈ mTb := mTb_at 1745 (by decide +kernel) rfl
def mX12_layCounters : mM := (yX12_layCounters, cX12_layCounters, 5, (some .int))
theorem lwX12_layCounters : mWo mX12_layCounters ∈ mTb := mTb_at 1758 (by decide +kernel) rfl
theorem loX12_layCounters : Cond.instanceMethod yX12_layCounters ∈ mTb := mTb_at 1757 (by decide +kernel) rfl
theorem lvX12_layCounters : Cond.selects RX12 yX12_layCounters yX12_layCounters ∈ mTb := mTb_sl 115 (by decide +kernel) rfl
def mX12_doneAt : mM := (yX12_doneAt, cX12_doneAt, 6, (some .int))
theorem lwX12_doneAt : mWo mX12_doneAt ∈ mTb := mTb_at 1762 (by decide +kernel) rfl
theorem loX12_doneAt : Cond.instanceMethod yX12_doneAt ∈ mTb := mTb_at 1761 (by decide +kernel) rfl
theorem lvX12_doneAt : Cond.selects RX12 yX12_doneAt yX12_doneAt ∈ mTb := mTb_sl 116 (by decide +kernel) rfl
def mX12_countersRows : mM := (yX12_countersRows, cX12_countersRows, 3, (some .int))
theorem lwX12_countersRows : mWo mX12_countersRows ∈ mTb := mTb_at 1754 (by decide +kernel) rfl
theorem loX12_countersRows : Cond.instanceMethod yX12_countersRows ∈ mTb := mTb_at 1753 (by decide +kernel) rfl
theorem lvX12_countersRows : Cond.selects RX12 yX12_countersRows yX12_countersRows ∈ mTb := mTb_sl 114 (by decide +kernel) rfl
def mX12_rounds : mM := (yX12_rounds, cX12_rounds, 7, (some .int))
theorem lwX12_rounds : mWo mX12_rounds ∈ mTb := mTb_at 1750 (by decide +kernel) rfl
theorem loX12_rounds : Cond.instanceMethod yX12_rounds ∈ mTb := mTb_at 1748 (by decide +kernel) rfl
theorem lvX12_rounds : Cond.selects RX12 yX12_rounds yX12_rounds ∈ mTb := mTb_at 1749 (by decide +kernel) rfl
def mX12_noon : mM := (yX12_noon, cX12_noon, 7, (some .int))
theorem lwX12_noon : mWo mX12_noon ∈ mTb := mTb_at 1766 (by decide +kernel) rfl
theorem loX12_noon : Cond.instanceMethod yX12_noon ∈ mTb := mTb_at 1764 (by decide +kernel) rfl
theorem lvX12_noon : Cond.selects RX12 yX12_noon yX12_noon ∈ mTb := mTb_at 1765 (by decide +kernel) rfl
def mX12_without : mM := (yX12_without, cX12_without, 5, (some .int))
theorem lwX12_without : mWo mX12_without ∈ mTb := mTb_at 1774 (by decide +kernel) rfl
theorem loX12_without : Cond.instanceMethod yX12_without ∈ mTb := mTb_at 1773 (by decide +kernel) rfl
theorem lvX12_without : Cond.selects RX12 yX12_without yX12_without ∈ mTb := mTb_sl 117 (by decide +kernel) rfl
def mX12_missed : mM := (yX12_missed, cX12_missed, 2, (some .int))
theorem lwX12_missed : mWo mX12_missed ∈ mTb := mTb_at 1770 (by decide +kernel) rfl
theorem loX12_missed : Cond.instanceMethod yX12_missed ∈ mTb := mTb_at 1768 (by decide +kernel) rfl
theorem lvX12_missed : Cond.selects RX12 yX12_missed yX12_missed ∈ mTb := mTb_at 1769 (by decide +kernel) rfl
def mX12_doubled : mM := (yX12_doubled, cX12_doubled, 2, (some .int))
theorem lwX12_doubled : mWo mX12_doubled ∈ mTb := mTb_at 1778 (by decide +kernel) rfl
theorem loX12_doubled : Cond.instanceMethod yX12_doubled ∈ mTb := mTb_at 1776 (by decide +kernel) rfl
theorem lvX12_doubled : Cond.selects RX12 yX12_doubled yX12_doubled ∈ mTb := mTb_at 1777 (by decide +kernel) rfl
def mX12_laySeats : mM := (yX12_laySeats, cX12_laySeats, 7, none)
theorem lwX12_laySeats : mWo mX12_laySeats ∈ mTb := mTb_at 1786 (by decide +kernel) rfl
theorem loX12_laySeats : Cond.instanceMethod yX12_laySeats ∈ mTb := mTb_at 1785 (by decide +kernel) rfl
theorem lvX12_laySeats : Cond.selects RX12 yX12_laySeats yX12_laySeats ∈ mTb := mTb_sl 118 (by decide +kernel) rfl
def mX12_seats : mM := (yX12_seats, cX12_seats, 4, (some .int))
theorem lwX12_seats : mWo mX12_seats ∈ mTb := mTb_at 1782 (by decide +kernel) rfl
theorem loX12_seats : Cond.instanceMethod yX12_seats ∈ mTb := mTb_at 1780 (by decide +kernel) rfl
theorem lvX12_seats : Cond.selects RX12 yX12_seats yX12_seats ∈ mTb := mTb_at 1781 (by decide +kernel) rfl
def mX12_keepSeats : mM := (yX12_keepSeats, cX12_keepSeats, 2, none)
theorem lwX12_keepSeats : mWo mX12_keepSeats ∈ mTb := mTb_at 1794 (by decide +kernel) rfl
theorem loX12_keepSeats : Cond.instanceMethod yX12_keepSeats ∈ mTb := mTb_at 1793 (by decide +kernel) rfl
theorem lvX12_keepSeats : Cond.selects RX12 yX12_keepSeats yX12_keepSeats ∈ mTb := mTb_sl 119 (by decide +kernel) rfl
def mX12_isOtherSeats : mM := (yX12_isOtherSeats, cX12_isOtherSeats, 3, (some .boolean))
theorem lwX12_isOtherSeats : mWo mX12_isOtherSeats ∈ mTb := mTb_at 1798 (by decide +kernel) rfl
theorem loX12_isOtherSeats : Cond.instanceMethod yX12_isOtherSeats ∈ mTb := mTb_at 1797 (by decide +kernel) rfl
theorem lvX12_isOtherSeats : Cond.selects RX12 yX12_isOtherSeats yX12_isOtherSeats ∈ mTb := mTb_sl 120 (by decide +kernel) rfl
def mX12_stone : mM := (yX12_stone, cX12_stone, 5, (some .int))
theorem lwX12_stone : mWo mX12_stone ∈ mTb := mTb_at 1790 (by decide +kernel) rfl
theorem loX12_stone : Cond.instanceMethod yX12_stone ∈ mTb := mTb_at 1788 (by decide +kernel) rfl
theorem lvX12_stone : Cond.selects RX12 yX12_stone yX12_stone ∈ mTb := mTb_at 1789 (by decide +kernel) rfl
def mX12_loss : mM := (yX12_loss, cX12_loss, 4, (some .int))
theorem lwX12_loss : mWo mX12_loss ∈ mTb := mTb_at 1802 (by decide +kernel) rfl
theorem loX12_loss : Cond.instanceMethod yX12_loss ∈ mTb := mTb_at 1800 (by decide +kernel) rfl
theorem lvX12_loss : Cond.selects RX12 yX12_loss yX12_loss ∈ mTb := mTb_at 1801 (by decide +kernel) rfl
def mX12_draft : mM := (yX12_draft, cX12_draft, 6, (some .int))
theorem lwX12_draft : mWo mX12_draft ∈ mTb := mTb_at 1806 (by decide +kernel) rfl
theorem loX12_draft : Cond.instanceMethod yX12_draft ∈ mTb := mTb_at 1804 (by decide +kernel) rfl
theorem lvX12_draft : Cond.selects RX12 yX12_draft yX12_draft ∈ mTb := mTb_at 1805 (by decide +kernel) rfl
def mX12_layRoad : mM := (yX12_layRoad, cX12_layRoad, 4, none)
theorem lwX12_layRoad : mWo mX12_layRoad ∈ mTb := mTb_at 1815 (by decide +kernel) rfl
theorem loX12_layRoad : Cond.instanceMethod yX12_layRoad ∈ mTb := mTb_at 1814 (by decide +kernel) rfl
theorem lvX12_layRoad : Cond.selects RX12 yX12_layRoad yX12_layRoad ∈ mTb := mTb_sl 121 (by decide +kernel) rfl
def mX12_moved : mM := (yX12_moved, cX12_moved, 4, (some .int))
theorem lwX12_moved : mWo mX12_moved ∈ mTb := mTb_at 1819 (by decide +kernel) rfl
theorem loX12_moved : Cond.instanceMethod yX12_moved ∈ mTb := mTb_at 1818 (by decide +kernel) rfl
theorem lvX12_moved : Cond.selects RX12 yX12_moved yX12_moved ∈ mTb := mTb_sl 122 (by decide +kernel) rfl
def mX12_chase : mM := (yX12_chase, cX12_chase, 7, (some .int))
theorem lwX12_chase : mWo mX12_chase ∈ mTb := mTb_at 1811 (by decide +kernel) rfl
theorem loX12_chase : Cond.instanceMethod yX12_chase ∈ mTb := mTb_at 1809 (by decide +kernel) rfl
theorem lvX12_chase : Cond.selects RX12 yX12_chase yX12_chase ∈ mTb := mTb_at 1810 (by decide +kernel) rfl
def mX12_marks : mM := (yX12_marks, cX12_marks, 5, (some .int))
theorem lwX12_marks : mWo mX12_marks ∈ mTb := mTb_at 1823 (by decide +kernel) rfl
theorem loX12_marks : Cond.instanceMethod yX12_marks ∈ mTb := mTb_at 1821 (by decide +kernel) rfl
theorem lvX12_marks : Cond.selects RX12 yX12_marks yX12_marks ∈ mTb := mTb_at 1822 (by decide +kernel) rfl
def mX12_lies : mM := (yX12_lies, cX12_lies, 2, (some .int))
theorem lwX12_lies : mWo mX12_lies ∈ mTb := mTb_at 1827 (by decide +kernel) rfl
theorem loX12_lies : Cond.instanceMethod yX12_lies ∈ mTb := mTb_at 1825 (by decide +kernel) rfl
theorem lvX12_lies : Cond.selects RX12 yX12_lies yX12_lies ∈ mTb := mTb_at 1826 (by decide +kernel) rfl
def mX12_report : mM := (yX12_report, cX12_report, 4, (some .int))
theorem lwX12_report : mWo mX12_report ∈ mTb := mTb_at 1831 (by decide +kernel) rfl
theorem loX12_report : Cond.instanceMethod yX12_report ∈ mTb := mTb_at 1829 (by decide +kernel) rfl
theorem lvX12_report : Cond.selects RX12 yX12_report yX12_report ∈ mTb := mTb_at 1830 (by decide +kernel) rfl
def mX12_untell : mM := (yX12_untell, cX12_untell, 2, (some .boolean))
theorem lwX12_untell : mWo mX12_untell ∈ mTb := mTb_at 1835 (by decide +kernel) rfl
theorem loX12_untell : Cond.instanceMethod yX12_untell ∈ mTb := mTb_at 1833 (by decide +kernel) rfl
theorem lvX12_untell : Cond.selects RX12 yX12_untell yX12_untell ∈ mTb := mTb_at 1834 (by decide +kernel) rfl
def mX12_later : mM := (yX12_later, cX12_later, 2, (some .int))
theorem lwX12_later : mWo mX12_later ∈ mTb := mTb_at 1839 (by decide +kernel) rfl
theorem loX12_later : Cond.instanceMethod yX12_later ∈ mTb := mTb_at 1837 (by decide +kernel) rfl
theorem lvX12_later : Cond.selects RX12 yX12_later yX12_later ∈ mTb := mTb_at 1838 (by decide +kernel) rfl
def mX12_headOf : mM := (yX12_headOf, cX12_headOf, 3, (some .int))
theorem lwX12_headOf : mWo mX12_headOf ∈ mTb := mTb_at 1856 (by decide +kernel) rfl
theorem loX12_headOf : Cond.instanceMethod yX12_headOf ∈ mTb := mTb_at 1855 (by decide +kernel) rfl
theorem lvX12_headOf : Cond.selects RX12 yX12_headOf yX12_headOf ∈ mTb := mTb_sl 125 (by decide +kernel) rfl
def mX12_liarsOf : mM := (yX12_liarsOf, cX12_liarsOf, 8, (some .int))
theorem lwX12_liarsOf : mWo mX12_liarsOf ∈ mTb := mTb_at 1852 (by decide +kernel) rfl
theorem loX12_liarsOf : Cond.instanceMethod yX12_liarsOf ∈ mTb := mTb_at 1851 (by decide +kernel) rfl
theorem lvX12_liarsOf : Cond.selects RX12 yX12_liarsOf yX12_liarsOf ∈ mTb := mTb_sl 124 (by decide +kernel) rfl
def mX12_layTruths : mM := (yX12_layTruths, cX12_layTruths, 5, none)
theorem lwX12_layTruths : mWo mX12_layTruths ∈ mTb := mTb_at 1848 (by decide +kernel) rfl
theorem loX12_layTruths : Cond.instanceMethod yX12_layTruths ∈ mTb := mTb_at 1847 (by decide +kernel) rfl
theorem lvX12_layTruths : Cond.selects RX12 yX12_layTruths yX12_layTruths ∈ mTb := mTb_sl 123 (by decide +kernel) rfl
def mX12_truths : mM := (yX12_truths, cX12_truths, 2, (some .int))
theorem lwX12_truths : mWo mX12_truths ∈ mTb := mTb_at 1844 (by decide +kernel) rfl
theorem loX12_truths : Cond.instanceMethod yX12_truths ∈ mTb := mTb_at 1842 (by decide +kernel) rfl
theorem lvX12_truths : Cond.selects RX12 yX12_truths yX12_truths ∈ mTb := mTb_at 1843 (by decide +kernel) rfl
def mX12_range : mM := (yX12_range, cX12_range, 7, (some .int))
theorem lwX12_range : mWo mX12_range ∈ mTb := mTb_at 1860 (by decide +kernel) rfl
theorem loX12_range : Cond.instanceMethod yX12_range ∈ mTb := mTb_at 1858 (by decide +kernel) rfl
theorem lvX12_range : Cond.selects RX12 yX12_range yX12_range ∈ mTb := mTb_at 1859 (by decide +kernel) rfl
def mX12_liars : mM := (yX12_liars, cX12_liars, 7, (some .int))
theorem lwX12_liars : mWo mX12_liars ∈ mTb := mTb_at 1864 (by decide +kernel) rfl
theorem loX12_liars : Cond.instanceMethod yX12_liars ∈ mTb := mTb_at 1862 (by decide +kernel) rfl
theorem lvX12_liars : Cond.selects RX12 yX12_liars yX12_liars ∈ mTb := mTb_at 1863 (by decide +kernel) rfl
def mX12_mostOf : mM := (yX12_mostOf, cX12_mostOf, 4, (some .int))
theorem lwX12_mostOf : mWo mX12_mostOf ∈ mTb := mTb_at 1872 (by decide +kernel) rfl
theorem loX12_mostOf : Cond.instanceMethod yX12_mostOf ∈ mTb := mTb_at 1871 (by decide +kernel) rfl
theorem lvX12_mostOf : Cond.selects RX12 yX12_mostOf yX12_mostOf ∈ mTb := mTb_sl 126 (by decide +kernel) rfl
def mX12_knock : mM := (yX12_knock, cX12_knock, 5, (some .int))
theorem lwX12_knock : mWo mX12_knock ∈ mTb := mTb_at 1868 (by decide +kernel) rfl
theorem loX12_knock : Cond.instanceMethod yX12_knock ∈ mTb := mTb_at 1866 (by decide +kernel) rfl
theorem lvX12_knock : Cond.selects RX12 yX12_knock yX12_knock ∈ mTb := mTb_at 1867 (by decide +kernel) rfl
def mX12_tellsAll : mM := (yX12_tellsAll, cX12_tellsAll, 8, (some .boolean))
theorem lwX12_tellsAll : mWo mX12_tellsAll ∈ mTb := mTb_at 1883 (by decide +kernel) rfl
theorem loX12_tellsAll : Cond.instanceMethod yX12_tellsAll ∈ mTb := mTb_at 1882 (by decide +kernel) rfl
theorem lvX12_tellsAll : Cond.selects RX12 yX12_tellsAll yX12_tellsAll ∈ mTb := mTb_sl 127 (by decide +kernel) rfl
def mX12_membersOf : mM := (yX12_membersOf, cX12_membersOf, 3, (some .int))
theorem lwX12_membersOf : mWo mX12_membersOf ∈ mTb := mTb_at 1879 (by decide +kernel) rfl
theorem ltX12_membersOf : Cond.static yX12_membersOf ∈ mTb := mTb_at 1878 (by decide +kernel) rfl
def mX12_tells : mM := (yX12_tells, cX12_tells, 5, (some .int))
theorem lwX12_tells : mWo mX12_tells ∈ mTb := mTb_at 1876 (by decide +kernel) rfl
theorem loX12_tells : Cond.instanceMethod yX12_tells ∈ mTb := mTb_at 1874 (by decide +kernel) rfl
theorem lvX12_tells : Cond.selects RX12 yX12_tells yX12_tells ∈ mTb := mTb_at 1875 (by decide +kernel) rfl
def mX12_common : mM := (yX12_common, cX12_common, 5, (some .int))
theorem lwX12_common : mWo mX12_common ∈ mTb := mTb_at 1890 (by decide +kernel) rfl
theorem ltX12_common : Cond.static yX12_common ∈ mTb := mTb_at 1889 (by decide +kernel) rfl
def mX12_odds : mM := (yX12_odds, cX12_odds, 7, (some .int))
theorem lwX12_odds : mWo mX12_odds ∈ mTb := mTb_at 1887 (by decide +kernel) rfl
theorem loX12_odds : Cond.instanceMethod yX12_odds ∈ mTb := mTb_at 1885 (by decide +kernel) rfl
theorem lvX12_odds : Cond.selects RX12 yX12_odds yX12_odds ∈ mTb := mTb_at 1886 (by decide +kernel) rfl
def mX12_isBox : mM := (yX12_isBox, cX12_isBox, 1, (some .boolean))
theorem lwX12_isBox : mWo mX12_isBox ∈ mTb := mTb_at 1897 (by decide +kernel) rfl
theorem ltX12_isBox : Cond.static yX12_isBox ∈ mTb := mTb_at 1896 (by decide +kernel) rfl
def mX12_image : mM := (yX12_image, cX12_image, 3, (some .int))
theorem lwX12_image : mWo mX12_image ∈ mTb := mTb_at 1894 (by decide +kernel) rfl
theorem loX12_image : Cond.instanceMethod yX12_image ∈ mTb := mTb_at 1892 (by decide +kernel) rfl
theorem lvX12_image : Cond.selects RX12 yX12_image yX12_image ∈ mTb := mTb_at 1893 (by decide +kernel) rfl
def mX12_back : mM := (yX12_back, cX12_back, 3, (some .int))
theorem lwX12_back : mWo mX12_back ∈ mTb := mTb_at 1901 (by decide +kernel) rfl
theorem loX12_back : Cond.instanceMethod yX12_back ∈ mTb := mTb_at 1899 (by decide +kernel) rfl
theorem lvX12_back : Cond.selects RX12 yX12_back yX12_back ∈ mTb := mTb_at 1900 (by decide +kernel) rfl
def mX12_about : mM := (yX12_about, cX12_about, 2, (some .int))
theorem lwX12_about : mWo mX12_about ∈ mTb := mTb_at 1905 (by decide +kernel) rfl
theorem loX12_about : Cond.instanceMethod yX12_about ∈ mTb := mTb_at 1903 (by decide +kernel) rfl
theorem lvX12_about : Cond.selects RX12 yX12_about yX12_about ∈ mTb := mTb_at 1904 (by decide +kernel) rfl
def mJ6_bitCount_0f7a4 : mM := (yJ6_bitCount_0f7a4, cJ6_bitCount_0f7a4, 1, (some .int))
theorem lwJ6_bitCount_0f7a4 : mWo mJ6_bitCount_0f7a4 ∈ mTb := mTb_at 1136 (by decide +kernel) rfl
theorem ltJ6_bitCount_0f7a4 : Cond.static yJ6_bitCount_0f7a4 ∈ mTb := mTb_at 1135 (by decide +kernel) rfl
def mJ9_max_7cf53 : mM := (yJ9_max_7cf53, cJ9_max_7cf53, 2, (some .int))
theorem lwJ9_max_7cf53 : mWo mJ9_max_7cf53 ∈ mTb := mTb_at 723 (by decide +kernel) rfl
theorem ltJ9_max_7cf53 : Cond.static yJ9_max_7cf53 ∈ mTb := mTb_at 722 (by decide +kernel) rfl
def mJ9_min_7cf53 : mM := (yJ9_min_7cf53, cJ9_min_7cf53, 2, (some .int))
theorem lwJ9_min_7cf53 : mWo mJ9_min_7cf53 ∈ mTb := mTb_at 720 (by decide +kernel) rfl
theorem ltJ9_min_7cf53 : Cond.static yJ9_min_7cf53 ∈ mTb := mTb_at 719 (by decide +kernel) rfl
def mJ7_fill_53178 : mM := (yJ7_fill_53178, cJ7_fill_53178, 4, none)
theorem lwJ7_fill_53178 : mWo mJ7_fill_53178 ∈ mTb := mTb_at 670 (by decide +kernel) rfl
theorem ltJ7_fill_53178 : Cond.static yJ7_fill_53178 ∈ mTb := mTb_at 669 (by decide +kernel) rfl
end
section
def tX0_init : List mI := [(0, .aload_n 0, 1, 0, 0), (1, .invokespecial 3, 3, 0, 8888), (4, .aload_n 0, 1, 0, 0), (5, .sipush 280, 3, 0, 0), (8, .newarray .int, 2, 0, 0), (10, .putfield 9, 3, 0, 0), (13, .aload_n 0, 1, 0, 0), (14, .bipush 30, 2, 0, 0), (16, .newarray .int, 2, 0, 0), (18, .putfield 15, 3, 0, 1), (21, .return_, 1, 0, 0)]
set_option maxRecDepth 100000 in
theorem kX0_init : mTok cX0_init RX0 1 true tX0_init := mTok_of (by decide +kernel) ⟨trivial, (fun _ => lmRX0_3), trivial, trivial, ⟨la_int, by decide⟩, ⟨_, rfl, lfRX0_9, fun _ => rfl⟩, trivial, trivial, ⟨la_int, by decide⟩, ⟨_, rfl, lfRX0_15, fun _ => rfl⟩, trivial, trivial⟩
def tX0_clear : List mI := [(0, .aload_n 0, 1, 0, 0), (1, .iconst 0, 1, 0, 0), (2, .putfield 18, 3, 0, 2), (5, .aload_n 0, 1, 0, 0), (6, .iconst 0, 1, 0, 0), (7, .putfield 22, 3, 0, 3), (10, .aload_n 0, 1, 0, 0), (11, .iconst 0, 1, 0, 0), (12, .putfield 25, 3, 0, 4), (15, .return_, 1, 0, 0)]
set_option maxRecDepth 100000 in
theorem kX0_clear : mTok cX0_clear RX0 1 false tX0_clear := mTok_of (by decide +kernel) ⟨trivial, trivial, ⟨_, rfl, lfRX0_18, (fun z => by cases z)⟩, trivial, trivial, ⟨_, rfl, lfRX0_22, (fun z => by cases z)⟩, trivial, trivial, ⟨_, rfl, lfRX0_25, (fun z => by cases z)⟩, trivial, trivial⟩
def tX0_add : List mI := [(0, .aload_n 0, 1, 0, 0), (1, .getfield 18, 3, 0, 2), (4, .sipush 280, 3, 0, 0), (7, .if_icmp .ge 23, 3, 0, 0), (10, .aload_n 0, 1, 0, 0), (11, .getfield 9, 3, 0, 0), (14, .aload_n 0, 1, 0, 0), (15, .getfield 18, 3, 0, 2), (18, .iload_n 1, 1, 0, 0), (19, .iastore, 1, 0, 0), (20, .aload_n 0, 1, 0, 0), (21, .dup, 1, 0, 0), (22, .getfield 18, 3, 0, 2), (25, .iconst 1, 1, 0, 0), (26, .iadd, 1, 0, 0), (27, .putfield 18, 3, 0, 2), (30, .return_, 1, 0, 0)]
set_option maxRecDepth 100000 in
theorem kX0_add : mTok cX0_add RX0 2 false tX0_add := mTok_of (by decide +kernel) ⟨trivial, ⟨_, rfl, lfRX0_18⟩, trivial, trivial, trivial, ⟨_, rfl, lfRX0_9⟩, trivial, ⟨_, rfl, lfRX0_18⟩, trivial, trivial, trivial, trivial, ⟨_, rfl, lfRX0_18⟩, trivial, trivial, ⟨_, rfl, lfRX0_18, (fun z => by cases z)⟩, trivial, trivial⟩
def tX0_work : List mI := [(0, .iconst 0, 1, 0, 0), (1, .istore_n 2, 1, 0, 0), (2, .iconst 0, 1, 0, 0), (3, .istore_n 3, 1, 0, 0), (4, .iload_n 3, 1, 0, 0), (5, .aload_n 0, 1, 0, 0), (6, .getfield 18, 3, 0, 2), (9, .if_icmp .ge 127, 3, 0, 0), (12, .aload_n 0, 1, 0, 0), (13, .getfield 9, 3, 0, 0), (16, .iload_n 3, 1, 0, 0), (17, .iaload, 1, 0, 0), (18, .istore 4, 2, 0, 0), (20, .iload 4, 2, 0, 0), (22, .sipush 20000, 3, 0, 0), (25, .if_icmp .ge 27, 3, 0, 0), (28, .iload_n 2, 1, 0, 0), (29, .bipush 30, 2, 0, 0), (31, .if_icmp .ge 99, 3, 0, 0), (34, .aload_n 0, 1, 0, 0), (35, .getfield 15, 3, 0, 1), (38, .iload_n 2, 1, 0, 0), (39, .iload 4, 2, 0, 0), (41, .aload_n 1, 1, 0, 0), (42, .invokestatic 29, 3, 0, 0), (45, .iastore, 1, 0, 0), (46, .iinc 2 1, 3, 0, 0), (49, .goto 81, 3, 0, 0), (52, .iload 4, 2, 0, 0), (54, .sipush 20033, 3, 0, 0), (57, .if_icmp .ne 34, 3, 0, 0), (60, .iload_n 2, 1, 0, 0), (61, .ifCond .le 69, 3, 0, 0), (64, .aload_n 0, 1, 0, 0), (65, .getfield 15, 3, 0, 1), (68, .iload_n 2, 1, 0, 0), (69, .iconst 1, 1, 0, 0), (70, .isub, 1, 0, 0), (71, .aload_n 0, 1, 0, 0), (72, .getfield 15, 3, 0, 1), (75, .iload_n 2, 1, 0, 0), (76, .iconst 1, 1, 0, 0), (77, .isub, 1, 0, 0), (78, .iaload, 1, 0, 0), (79, .ifCond .ne 7, 3, 0, 0), (82, .iconst 1, 1, 0, 0), (83, .goto 4, 3, 0, 0), (86, .iconst 0, 1, 0, 0), (87, .iastore, 1, 0, 0), (88, .goto 42, 3, 0, 0), (91, .iload_n 2, 1, 0, 0), (92, .iconst 1, 1, 0, 0), (93, .if_icmp .le 37, 3, 0, 0), (96, .iinc 2 (-1), 3, 0, 0), (99, .aload_n 0, 1, 0, 0), (100, .getfield 15, 3, 0, 1), (103, .iload_n 2, 1, 0, 0), (104, .iconst 1, 1, 0, 0), (105, .isub, 1, 0, 0), (106, .iload 4, 2, 0, 0), (108, .sipush 20000, 3, 0, 0), (111, .isub, 1, 0, 0), (112, .aload_n 0, 1, 0, 0), (113, .getfield 15, 3, 0, 1), (116, .iload_n 2, 1, 0, 0), (117, .iconst 1, 1, 0, 0), (118, .isub, 1, 0, 0), (119, .iaload, 1, 0, 0), (120, .aload_n 0, 1, 0, 0), (121, .getfield 15, 3, 0, 1), (124, .iload_n 2, 1, 0, 0), (125, .iaload, 1, 0, 0), (126, .invokestatic 33, 3, 0, 0), (129, .iastore, 1, 0, 0), (130, .iinc 3 1, 3, 0, 0), (133, .goto (-129), 3, 0, 0), (136, .iload_n 2, 1, 0, 0), (137, .ifCond .le 14, 3, 0, 0), (140, .aload_n 0, 1, 0, 0), (141, .getfield 15, 3, 0, 1), (144, .iload_n 2, 1, 0, 0), (145, .iconst 1, 1, 0, 0), (146, .isub, 1, 0, 0), (147, .iaload, 1, 0, 0), (148, .goto 4, 3, 0, 0), (151, .iconst 0, 1, 0, 0), (152, .ireturn, 1, 0, 0)]
set_option maxRecDepth 100000 in
theorem kX0_work : mTok cX0_work RX0 5 false tX0_work := mTok_of (by decide +kernel) ⟨trivial, trivial, trivial, trivial, trivial, trivial, ⟨_, rfl, lfRX0_18⟩, trivial, trivial, ⟨_, rfl, lfRX0_9⟩, trivial, trivial, trivial, trivial, trivial, trivial, trivial, trivial, trivial, trivial, ⟨_, rfl, lfRX0_15⟩, trivial, trivial, trivial, (fun z => by cases z), trivial, trivial, trivial, trivial, trivial, trivial, trivial, trivial, trivial, ⟨_, rfl, lfRX0_15⟩, trivial, trivial, trivial, trivial, ⟨_, rfl, lfRX0_15⟩, trivial, trivial, trivial, trivial, trivial, trivial, trivial, trivial, trivial, trivial, trivial, trivial, trivial, trivial, trivial, ⟨_, rfl, lfRX0_15⟩, trivial, trivial, trivial, trivial, trivial, trivial, trivial, ⟨_, rfl, lfRX0_15⟩, trivial, trivial, trivial, trivial, trivial, ⟨_, rfl, lfRX0_15⟩, trivial, trivial, (fun z => by cases z), trivial, trivial, trivial, trivial, trivial, trivial, ⟨_, rfl, lfRX0_15⟩, trivial, trivial, trivial, trivial, trivial, trivial, trivial, trivial⟩
def tX0_leaf : List mI := [(0, .iload_n 0, 1, 0, 0), (1, .sipush 10000, 3, 0, 0), (4, .isub, 1, 0, 0), (5, .istore_n 2, 1, 0, 0), (6, .iload_n 2, 1, 0, 0), (7, .ifCond .ge 5, 3, 0, 0), (10, .iload_n 0, 1, 0, 0), (11, .ireturn, 1, 0, 0), (12, .iload_n 2, 1, 0, 0), (13, .aload_n 1, 1, 0, 0), (14, .arraylength, 1, 0, 0), (15, .if_icmp .ge 9, 3, 0, 0), (18, .aload_n 1, 1, 0, 0), (19, .iload_n 2, 1, 0, 0), (20, .iaload, 1, 0, 0), (21, .goto 4, 3, 0, 0), (24, .iconst 0, 1, 0, 0), (25, .ireturn, 1, 0, 0)]
set_option maxRecDepth 100000 in
theorem kX0_leaf : mTok cX0_leaf RX0 3 false tX0_leaf := mTok_of (by decide +kernel) ⟨trivial, trivial, trivial, trivial, trivial, trivial, trivial, trivial, trivial, trivial, trivial, trivial, trivial, trivial, trivial, trivial, trivial, trivial, trivial⟩
def tX0_join : List mI := [(0, .iload_n 0, 1, 0, 0), (1, .tableswitch 202 37 62 #[143, 188, 202, 202, 202, 127, 119, 202, 123, 202, 131, 202, 202, 202, 202, 202, 202, 202, 202, 202, 202, 202, 202, 155, 177, 166], 119, 0, 0), (120, .iload_n 1, 1, 0, 0), (121, .iload_n 2, 1, 0, 0), (122, .iadd, 1, 0, 0), (123, .ireturn, 1, 0, 0), (124, .iload_n 1, 1, 0, 0), (125, .iload_n 2, 1, 0, 0), (126, .isub, 1, 0, 0), (127, .ireturn, 1, 0, 0), (128, .iload_n 1, 1, 0, 0), (129, .iload_n 2, 1, 0, 0), (130, .imul, 1, 0, 0), (131, .ireturn, 1, 0, 0), (132, .iload_n 2, 1, 0, 0), (133, .ifCond .ne 7, 3, 0, 0), (136, .iconst 0, 1, 0, 0), (137, .goto 6, 3, 0, 0), (140, .iload_n 1, 1, 0, 0), (141, .iload_n 2, 1, 0, 0), (142, .idiv, 1, 0, 0), (143, .ireturn, 1, 0, 0), (144, .iload_n 2, 1, 0, 0), (145, .ifCond .ne 7, 3, 0, 0), (148, .iconst 0, 1, 0, 0), (149, .goto 6, 3, 0, 0), (152, .iload_n 1, 1, 0, 0), (153, .iload_n 2, 1, 0, 0), (154, .irem, 1, 0, 0), (155, .ireturn, 1, 0, 0), (156, .iload_n 1, 1, 0, 0), (157, .iload_n 2, 1, 0, 0), (158, .if_icmp .ge 7, 3, 0, 0), (161, .iconst 1, 1, 0, 0), (162, .goto 4, 3, 0, 0), (165, .iconst 0, 1, 0, 0), (166, .ireturn, 1, 0, 0), (167, .iload_n 1, 1, 0, 0), (168, .iload_n 2, 1, 0, 0), (169, .if_icmp .le 7, 3, 0, 0), (172, .iconst 1, 1, 0, 0), (173, .goto 4, 3, 0, 0), (176, .iconst 0, 1, 0, 0), (177, .ireturn, 1, 0, 0), (178, .iload_n 1, 1, 0, 0), (179, .iload_n 2, 1, 0, 0), (180, .if_icmp .ne 7, 3, 0, 0), (183, .iconst 1, 1, 0, 0), (184, .goto 4, 3, 0, 0), (187, .iconst 0, 1, 0, 0), (188, .ireturn, 1, 0, 0), (189, .iload_n 1, 1, 0, 0), (190, .ifCond .eq 11, 3, 0, 0), (193, .iload_n 2, 1, 0, 0), (194, .ifCond .eq 7, 3, 0, 0), (197, .iconst 1, 1, 0, 0), (198, .goto 4, 3, 0, 0), (201, .iconst 0, 1, 0, 0), (202, .ireturn, 1, 0, 0), (203, .iload_n 1, 1, 0, 0), (204, .ifCond .ne 7, 3, 0, 0), (207, .iload_n 2, 1, 0, 0), (208, .ifCond .eq 7, 3, 0, 0), (211, .iconst 1, 1, 0, 0), (212, .goto 4, 3, 0, 0), (215, .iconst 0, 1, 0, 0), (216, .ireturn, 1, 0, 0)]
set_option maxRecDepth 100000 in
theorem kX0_join : mTok cX0_join RX0 3 false tX0_join := mTok_of (by decide +kernel) ⟨trivial, trivial, trivial, trivial, trivial, trivial, trivial, trivial, trivial, trivial, trivial, trivial, trivial, trivial, trivial, trivial, trivial, trivial, trivial, trivial, trivial, trivial, trivial, trivial, trivial, trivial, trivial, trivial, trivial, trivial, trivial, trivial, trivial, trivial, trivial, trivial, trivial, trivial, trivial, trivial, trivial, trivial, trivial, trivial, trivial, trivial, trivial, trivial, trivial, trivial, trivial, trivial, trivial, trivial, trivial, trivial, trivial, trivial, trivial, trivial, trivial, trivial, trivial, trivial, trivial, trivial, trivial, trivial⟩
def tX1_init : List mI := [(0, .aload_n 0, 1, 0, 0), (1, .invokespecial 3, 3, 0, 8888), (4, .aload_n 0, 1, 0, 0), (5, .iconst 5, 1, 0, 0), (6, .bipush 8, 2, 0, 0), (8, .multianewarray 9 2, 4, 0, 0), (12, .putfield 11, 3, 1, 0), (15, .aload_n 0, 1, 0, 0), (16, .bipush 6, 2, 0, 0), (18, .bipush 36, 2, 0, 0), (20, .multianewarray 9 2, 4, 0, 0), (24, .putfield 16, 3, 1, 1), (27, .aload_n 0, 1, 0, 0), (28, .iconst 5, 1, 0, 0), (29, .newarray .int, 2, 0, 0), (31, .putfield 19, 3, 1, 2), (34, .return_, 1, 0, 0)]
set_option maxRecDepth 100000 in
theorem kX1_init : mTok cX1_init RX1 1 true tX1_init := mTok_of (by decide +kernel) ⟨trivial, (fun _ => lmRX1_3), trivial, trivial, trivial, lnRX1_9, ⟨_, rfl, lfRX1_11, fun _ => rfl⟩, trivial, trivial, trivial, lnRX1_9, ⟨_, rfl, lfRX1_16, fun _ => rfl⟩, trivial, trivial, ⟨la_int, by decide⟩, ⟨_, rfl, lfRX1_19, fun _ => rfl⟩, trivial, trivial⟩
def tX1_look : List mI := [(0, .aload_n 0, 1, 0, 0), (1, .aload_n 1, 1, 0, 0), (2, .getfield 23, 3, 8, 9), (5, .putfield 29, 3, 1, 3), (8, .iconst 0, 1, 0, 0), (9, .istore_n 3, 1, 0, 0), (10, .iload_n 3, 1, 0, 0), (11, .aload_n 0, 1, 0, 0), (12, .getfield 29, 3, 1, 3), (15, .if_icmp .ge 57, 3, 0, 0), (18, .iconst 0, 1, 0, 0), (19, .istore 4, 2, 0, 0), (21, .iload 4, 2, 0, 0), (23, .bipush 7, 2, 0, 0), (25, .if_icmp .gt 41, 3, 0, 0), (28, .aload_n 0, 1, 0, 0), (29, .getfield 11, 3, 1, 0), (32, .iload_n 3, 1, 0, 0), (33, .aaload, 1, 0, 0), (34, .iload 4, 2, 0, 0), (36, .iload 4, 2, 0, 0), (38, .aload_n 2, 1, 0, 0), (39, .iconst 0, 1, 0, 0), (40, .iload_n 3, 1, 0, 0), (41, .iadd, 1, 0, 0), (42, .iaload, 1, 0, 0), (43, .if_icmp .gt 14, 3, 0, 0), (46, .aload_n 1, 1, 0, 0), (47, .aload_n 2, 1, 0, 0), (48, .iload_n 3, 1, 0, 0), (49, .iload 4, 2, 0, 0), (51, .invokestatic 30, 3, 0, 0), (54, .goto 5, 3, 0, 0), (57, .ldc 34, 2, 1000000, 0), (59, .iastore, 1, 0, 0), (60, .iinc 4 1, 3, 0, 0), (63, .goto (-42), 3, 0, 0), (66, .iinc 3 1, 3, 0, 0), (69, .goto (-59), 3, 0, 0), (72, .return_, 1, 0, 0)]
set_option maxRecDepth 100000 in
theorem kX1_look : mTok cX1_look RX1 5 false tX1_look := mTok_of (by decide +kernel) ⟨trivial, trivial, ⟨_, rfl, lfRX1_23⟩, ⟨_, rfl, lfRX1_29, (fun z => by cases z)⟩, trivial, trivial, trivial, trivial, ⟨_, rfl, lfRX1_29⟩, trivial, trivial, trivial, trivial, trivial, trivial, trivial, ⟨_, rfl, lfRX1_11⟩, trivial, trivial, trivial, trivial, trivial, trivial, trivial, trivial, trivial, trivial, trivial, trivial, trivial, trivial, (fun z => by cases z), trivial, lcRX1_34, trivial, trivial, trivial, trivial, trivial, trivial, trivial⟩
def tX1_taxHiding : List mI := [(0, .aload_n 0, 1, 0, 0), (1, .aload_n 1, 1, 0, 0), (2, .iload_n 2, 1, 0, 0), (3, .iload_n 3, 1, 0, 0), (4, .invokevirtual 35, 3, 0, 0), (7, .istore 4, 2, 0, 0), (9, .iload 4, 2, 0, 0), (11, .aload_n 0, 1, 0, 0), (12, .getfield 39, 3, 8, 3), (15, .iload_n 2, 1, 0, 0), (16, .iaload, 1, 0, 0), (17, .if_icmp .ge 8, 3, 0, 0), (20, .ldc 34, 2, 1000000, 0), (22, .goto 14, 3, 0, 0), (25, .aload_n 0, 1, 0, 0), (26, .iload 4, 2, 0, 0), (28, .iload_n 2, 1, 0, 0), (29, .aload_n 1, 1, 0, 0), (30, .bipush 15, 2, 0, 0), (32, .iaload, 1, 0, 0), (33, .invokevirtual 42, 3, 0, 0), (36, .ireturn, 1, 0, 0)]
set_option maxRecDepth 100000 in
theorem kX1_taxHiding : mTok cX1_taxHiding RX1 5 false tX1_taxHiding := mTok_of (by decide +kernel) ⟨trivial, trivial, trivial, trivial, trivial, trivial, trivial, trivial, ⟨_, rfl, lfRX1_39⟩, trivial, trivial, trivial, lcRX1_34, trivial, trivial, trivial, trivial, trivial, trivial, trivial, trivial, trivial, trivial⟩
def tX1_leastTax : List mI := [(0, .iconst 0, 1, 0, 0), (1, .istore_n 1, 1, 0, 0), (2, .iconst 0, 1, 0, 0), (3, .istore_n 2, 1, 0, 0), (4, .iload_n 2, 1, 0, 0), (5, .aload_n 0, 1, 0, 0), (6, .getfield 29, 3, 1, 3), (9, .if_icmp .ge 54, 3, 0, 0), (12, .ldc 34, 2, 1000000, 0), (14, .istore_n 3, 1, 0, 0), (15, .iconst 0, 1, 0, 0), (16, .istore 4, 2, 0, 0), (18, .iload 4, 2, 0, 0), (20, .bipush 7, 2, 0, 0), (22, .if_icmp .gt 23, 3, 0, 0), (25, .iload_n 3, 1, 0, 0), (26, .aload_n 0, 1, 0, 0), (27, .getfield 11, 3, 1, 0), (30, .iload_n 2, 1, 0, 0), (31, .aaload, 1, 0, 0), (32, .iload 4, 2, 0, 0), (34, .iaload, 1, 0, 0), (35, .invokestatic 46, 3, 0, 0), (38, .istore_n 3, 1, 0, 0), (39, .iinc 4 1, 3, 0, 0), (42, .goto (-24), 3, 0, 0), (45, .iload_n 3, 1, 0, 0), (46, .ldc 34, 2, 1000000, 0), (48, .if_icmp .lt 5, 3, 0, 0), (51, .iconst (-1), 1, 0, 0), (52, .ireturn, 1, 0, 0), (53, .iload_n 1, 1, 0, 0), (54, .iload_n 3, 1, 0, 0), (55, .iadd, 1, 0, 0), (56, .istore_n 1, 1, 0, 0), (57, .iinc 2 1, 3, 0, 0), (60, .goto (-56), 3, 0, 0), (63, .iload_n 1, 1, 0, 0), (64, .ireturn, 1, 0, 0)]
set_option maxRecDepth 100000 in
theorem kX1_leastTax : mTok cX1_leastTax RX1 5 false tX1_leastTax := mTok_of (by decide +kernel) ⟨trivial, trivial, trivial, trivial, trivial, trivial, ⟨_, rfl, lfRX1_29⟩, trivial, lcRX1_34, trivial, trivial, trivial, trivial, trivial, trivial, trivial, trivial, ⟨_, rfl, lfRX1_11⟩, trivial, trivial, trivial, trivial, (fun z => by cases z), trivial, trivial, trivial, trivial, lcRX1_34, trivial, trivial, trivial, trivial, trivial, trivial, trivial, trivial, trivial, trivial, trivial, trivial⟩
def tX1_choose : List mI := [(0, .aload_n 0, 1, 0, 0), (1, .invokevirtual 52, 3, 0, 0), (4, .iconst 0, 1, 0, 0), (5, .istore_n 2, 1, 0, 0), (6, .iload_n 2, 1, 0, 0), (7, .bipush 35, 2, 0, 0), (9, .if_icmp .gt 29, 3, 0, 0), (12, .aload_n 0, 1, 0, 0), (13, .getfield 16, 3, 1, 1), (16, .iconst 0, 1, 0, 0), (17, .aaload, 1, 0, 0), (18, .iload_n 2, 1, 0, 0), (19, .iaload, 1, 0, 0), (20, .iload_n 1, 1, 0, 0), (21, .if_icmp .gt 11, 3, 0, 0), (24, .aload_n 0, 1, 0, 0), (25, .iload_n 1, 1, 0, 0), (26, .iload_n 2, 1, 0, 0), (27, .invokevirtual 55, 3, 0, 0), (30, .iload_n 2, 1, 0, 0), (31, .ireturn, 1, 0, 0), (32, .iinc 2 1, 3, 0, 0), (35, .goto (-29), 3, 0, 0), (38, .iconst (-1), 1, 0, 0), (39, .ireturn, 1, 0, 0)]
set_option maxRecDepth 100000 in
theorem kX1_choose : mTok cX1_choose RX1 3 false tX1_choose := mTok_of (by decide +kernel) ⟨trivial, trivial, trivial, trivial, trivial, trivial, trivial, trivial, ⟨_, rfl, lfRX1_16⟩, trivial, trivial, trivial, trivial, trivial, trivial, trivial, trivial, trivial, trivial, trivial, trivial, trivial, trivial, trivial, trivial, trivial⟩
def tX1_weighFromTheEnd : List mI := [(0, .aload_n 0, 1, 0, 0), (1, .getfield 16, 3, 1, 1), (4, .aload_n 0, 1, 0, 0), (5, .getfield 29, 3, 1, 3), (8, .aaload, 1, 0, 0), (9, .ldc 34, 2, 1000000, 0), (11, .invokestatic 59, 3, 0, 0), (14, .aload_n 0, 1, 0, 0), (15, .getfield 16, 3, 1, 1), (18, .aload_n 0, 1, 0, 0), (19, .getfield 29, 3, 1, 3), (22, .aaload, 1, 0, 0), (23, .iconst 0, 1, 0, 0), (24, .iconst 0, 1, 0, 0), (25, .iastore, 1, 0, 0), (26, .aload_n 0, 1, 0, 0), (27, .getfield 29, 3, 1, 3), (30, .iconst 1, 1, 0, 0), (31, .isub, 1, 0, 0), (32, .istore_n 1, 1, 0, 0), (33, .iload_n 1, 1, 0, 0), (34, .ifCond .lt 37, 3, 0, 0), (37, .iconst 0, 1, 0, 0), (38, .istore_n 2, 1, 0, 0), (39, .iload_n 2, 1, 0, 0), (40, .bipush 35, 2, 0, 0), (42, .if_icmp .gt 23, 3, 0, 0), (45, .aload_n 0, 1, 0, 0), (46, .getfield 16, 3, 1, 1), (49, .iload_n 1, 1, 0, 0), (50, .aaload, 1, 0, 0), (51, .iload_n 2, 1, 0, 0), (52, .aload_n 0, 1, 0, 0), (53, .iload_n 1, 1, 0, 0), (54, .iload_n 2, 1, 0, 0), (55, .invokevirtual 65, 3, 0, 0), (58, .iastore, 1, 0, 0), (59, .iinc 2 1, 3, 0, 0), (62, .goto (-23), 3, 0, 0), (65, .iinc 1 (-1), 3, 0, 0), (68, .goto (-35), 3, 0, 0), (71, .return_, 1, 0, 0)]
set_option maxRecDepth 100000 in
theorem kX1_weighFromTheEnd : mTok cX1_weighFromTheEnd RX1 3 false tX1_weighFromTheEnd := mTok_of (by decide +kernel) ⟨trivial, ⟨_, rfl, lfRX1_16⟩, trivial, ⟨_, rfl, lfRX1_29⟩, trivial, lcRX1_34, (fun z => by cases z), trivial, ⟨_, rfl, lfRX1_16⟩, trivial, ⟨_, rfl, lfRX1_29⟩, trivial, trivial, trivial, trivial, trivial, ⟨_, rfl, lfRX1_29⟩, trivial, trivial, trivial, trivial, trivial, trivial, trivial, trivial, trivial, trivial, trivial, ⟨_, rfl, lfRX1_16⟩, trivial, trivial, trivial, trivial, trivial, trivial, trivial, trivial, trivial, trivial, trivial, trivial, trivial, trivial⟩
def tX1_cheapestFrom : List mI := [(0, .ldc 34, 2, 1000000, 0), (2, .istore_n 3, 1, 0, 0), (3, .iconst 0, 1, 0, 0), (4, .istore 4, 2, 0, 0), (6, .iload 4, 2, 0, 0), (8, .bipush 7, 2, 0, 0), (10, .if_icmp .gt 43, 3, 0, 0), (13, .iload 4, 2, 0, 0), (15, .iload_n 2, 1, 0, 0), (16, .if_icmp .gt 37, 3, 0, 0), (19, .iload_n 3, 1, 0, 0), (20, .aload_n 0, 1, 0, 0), (21, .getfield 11, 3, 1, 0), (24, .iload_n 1, 1, 0, 0), (25, .aaload, 1, 0, 0), (26, .iload 4, 2, 0, 0), (28, .iaload, 1, 0, 0), (29, .aload_n 0, 1, 0, 0), (30, .getfield 16, 3, 1, 1), (33, .iload_n 1, 1, 0, 0), (34, .iconst 1, 1, 0, 0), (35, .iadd, 1, 0, 0), (36, .aaload, 1, 0, 0), (37, .iload_n 2, 1, 0, 0), (38, .iload 4, 2, 0, 0), (40, .isub, 1, 0, 0), (41, .iaload, 1, 0, 0), (42, .iadd, 1, 0, 0), (43, .invokestatic 46, 3, 0, 0), (46, .istore_n 3, 1, 0, 0), (47, .iinc 4 1, 3, 0, 0), (50, .goto (-44), 3, 0, 0), (53, .iload_n 3, 1, 0, 0), (54, .ireturn, 1, 0, 0)]
set_option maxRecDepth 100000 in
theorem kX1_cheapestFrom : mTok cX1_cheapestFrom RX1 5 false tX1_cheapestFrom := mTok_of (by decide +kernel) ⟨lcRX1_34, trivial, trivial, trivial, trivial, trivial, trivial, trivial, trivial, trivial, trivial, trivial, ⟨_, rfl, lfRX1_11⟩, trivial, trivial, trivial, trivial, trivial, ⟨_, rfl, lfRX1_16⟩, trivial, trivial, trivial, trivial, trivial, trivial, trivial, trivial, trivial, (fun z => by cases z), trivial, trivial, trivial, trivial, trivial, trivial⟩
def tX1_pickFirst : List mI := [(0, .iload_n 1, 1, 0, 0), (1, .istore_n 3, 1, 0, 0), (2, .iload_n 2, 1, 0, 0), (3, .istore 4, 2, 0, 0), (5, .iconst 0, 1, 0, 0), (6, .istore 5, 2, 0, 0), (8, .iload 5, 2, 0, 0), (10, .aload_n 0, 1, 0, 0), (11, .getfield 29, 3, 1, 3), (14, .if_icmp .ge 49, 3, 0, 0), (17, .aload_n 0, 1, 0, 0), (18, .iload 5, 2, 0, 0), (20, .iload_n 3, 1, 0, 0), (21, .iload 4, 2, 0, 0), (23, .invokevirtual 68, 3, 0, 0), (26, .istore 6, 2, 0, 0), (28, .aload_n 0, 1, 0, 0), (29, .getfield 19, 3, 1, 2), (32, .iload 5, 2, 0, 0), (34, .iload 6, 2, 0, 0), (36, .iastore, 1, 0, 0), (37, .iload_n 3, 1, 0, 0), (38, .aload_n 0, 1, 0, 0), (39, .getfield 11, 3, 1, 0), (42, .iload 5, 2, 0, 0), (44, .aaload, 1, 0, 0), (45, .iload 6, 2, 0, 0), (47, .iaload, 1, 0, 0), (48, .isub, 1, 0, 0), (49, .istore_n 3, 1, 0, 0), (50, .iload 4, 2, 0, 0), (52, .iload 6, 2, 0, 0), (54, .isub, 1, 0, 0), (55, .istore 4, 2, 0, 0), (57, .iinc 5 1, 3, 0, 0), (60, .goto (-52), 3, 0, 0), (63, .return_, 1, 0, 0)]
set_option maxRecDepth 100000 in
theorem kX1_pickFirst : mTok cX1_pickFirst RX1 7 false tX1_pickFirst := mTok_of (by decide +kernel) ⟨trivial, trivial, trivial, trivial, trivial, trivial, trivial, trivial, ⟨_, rfl, lfRX1_29⟩, trivial, trivial, trivial, trivial, trivial, trivial, trivial, trivial, ⟨_, rfl, lfRX1_19⟩, trivial, trivial, trivial, trivial, trivial, ⟨_, rfl, lfRX1_11⟩, trivial, trivial, trivial, trivial, trivial, trivial, trivial, trivial, trivial, trivial, trivial, trivial, trivial, trivial⟩
def tX1_firstThatFits : List mI := [(0, .iconst 0, 1, 0, 0), (1, .istore 4, 2, 0, 0), (3, .iload 4, 2, 0, 0), (5, .bipush 7, 2, 0, 0), (7, .if_icmp .ge 45, 3, 0, 0), (10, .iload 4, 2, 0, 0), (12, .iload_n 3, 1, 0, 0), (13, .if_icmp .ge 39, 3, 0, 0), (16, .aload_n 0, 1, 0, 0), (17, .getfield 11, 3, 1, 0), (20, .iload_n 1, 1, 0, 0), (21, .aaload, 1, 0, 0), (22, .iload 4, 2, 0, 0), (24, .iaload, 1, 0, 0), (25, .aload_n 0, 1, 0, 0), (26, .getfield 16, 3, 1, 1), (29, .iload_n 1, 1, 0, 0), (30, .iconst 1, 1, 0, 0), (31, .iadd, 1, 0, 0), (32, .aaload, 1, 0, 0), (33, .iload_n 3, 1, 0, 0), (34, .iload 4, 2, 0, 0), (36, .isub, 1, 0, 0), (37, .iaload, 1, 0, 0), (38, .iadd, 1, 0, 0), (39, .iload_n 2, 1, 0, 0), (40, .if_icmp .gt 6, 3, 0, 0), (43, .iload 4, 2, 0, 0), (45, .ireturn, 1, 0, 0), (46, .iinc 4 1, 3, 0, 0), (49, .goto (-46), 3, 0, 0), (52, .bipush 7, 2, 0, 0), (54, .iload_n 3, 1, 0, 0), (55, .invokestatic 46, 3, 0, 0), (58, .ireturn, 1, 0, 0)]
set_option maxRecDepth 100000 in
theorem kX1_firstThatFits : mTok cX1_firstThatFits RX1 5 false tX1_firstThatFits := mTok_of (by decide +kernel) ⟨trivial, trivial, trivial, trivial, trivial, trivial, trivial, trivial, trivial, ⟨_, rfl, lfRX1_11⟩, trivial, trivial, trivial, trivial, trivial, ⟨_, rfl, lfRX1_16⟩, trivial, trivial, trivial, trivial, trivial, trivial, trivial, trivial, trivial, trivial, trivial, trivial, trivial, trivial, trivial, trivial, trivial, (fun z => by cases z), trivial, trivial⟩
def tX2_init : List mI := [(0, .aload_n 0, 1, 0, 0), (1, .invokespecial 3, 3, 0, 8888), (4, .aload_n 0, 1, 0, 0), (5, .bipush 41, 2, 0, 0), (7, .bipush 17, 2, 0, 0), (9, .multianewarray 9 2, 4, 0, 0), (13, .putfield 11, 3, 2, 0), (16, .aload_n 0, 1, 0, 0), (17, .iconst 3, 1, 0, 0), (18, .bipush 17, 2, 0, 0), (20, .multianewarray 9 2, 4, 0, 0), (24, .putfield 16, 3, 2, 1), (27, .aload_n 0, 1, 0, 0), (28, .iconst 3, 1, 0, 0), (29, .newarray .boolean, 2, 0, 0), (31, .putfield 19, 3, 2, 2), (34, .return_, 1, 0, 0)]
set_option maxRecDepth 100000 in
theorem kX2_init : mTok cX2_init RX2 1 true tX2_init := mTok_of (by decide +kernel) ⟨trivial, (fun _ => lmRX2_3), trivial, trivial, trivial, lnRX2_9, ⟨_, rfl, lfRX2_11, fun _ => rfl⟩, trivial, trivial, trivial, lnRX2_9, ⟨_, rfl, lfRX2_16, fun _ => rfl⟩, trivial, trivial, ⟨la_boolean, by decide⟩, ⟨_, rfl, lfRX2_19, fun _ => rfl⟩, trivial, trivial⟩
def tX2_startFrom : List mI := [(0, .aload_n 0, 1, 0, 0), (1, .iconst 0, 1, 0, 0), (2, .putfield 23, 3, 2, 3), (5, .aload_n 0, 1, 0, 0), (6, .iconst 0, 1, 0, 0), (7, .putfield 27, 3, 2, 4), (10, .aload_n 0, 1, 0, 0), (11, .iconst 0, 1, 0, 0), (12, .putfield 30, 3, 2, 5), (15, .aload_n 0, 1, 0, 0), (16, .aload_n 1, 1, 0, 0), (17, .invokevirtual 33, 3, 0, 0), (20, .return_, 1, 0, 0)]
set_option maxRecDepth 100000 in
theorem kX2_startFrom : mTok cX2_startFrom RX2 2 false tX2_startFrom := mTok_of (by decide +kernel) ⟨trivial, trivial, ⟨_, rfl, lfRX2_23, (fun z => by cases z)⟩, trivial, trivial, ⟨_, rfl, lfRX2_27, (fun z => by cases z)⟩, trivial, trivial, ⟨_, rfl, lfRX2_30, (fun z => by cases z)⟩, trivial, trivial, trivial, trivial, trivial⟩
def tX2_keep : List mI := [(0, .aload_n 0, 1, 0, 0), (1, .getfield 27, 3, 2, 4), (4, .bipush 40, 2, 0, 0), (6, .if_icmp .ge 16, 3, 0, 0), (9, .aload_n 0, 1, 0, 0), (10, .dup, 1, 0, 0), (11, .getfield 27, 3, 2, 4), (14, .iconst 1, 1, 0, 0), (15, .iadd, 1, 0, 0), (16, .putfield 27, 3, 2, 4), (19, .goto 16, 3, 0, 0), (22, .aload_n 0, 1, 0, 0), (23, .aload_n 0, 1, 0, 0), (24, .getfield 23, 3, 2, 3), (27, .iconst 1, 1, 0, 0), (28, .iadd, 1, 0, 0), (29, .bipush 41, 2, 0, 0), (31, .irem, 1, 0, 0), (32, .putfield 23, 3, 2, 3), (35, .aload_n 0, 1, 0, 0), (36, .iconst 0, 1, 0, 0), (37, .putfield 30, 3, 2, 5), (40, .aload_n 0, 1, 0, 0), (41, .aload_n 1, 1, 0, 0), (42, .invokevirtual 33, 3, 0, 0), (45, .return_, 1, 0, 0)]
set_option maxRecDepth 100000 in
theorem kX2_keep : mTok cX2_keep RX2 2 false tX2_keep := mTok_of (by decide +kernel) ⟨trivial, ⟨_, rfl, lfRX2_27⟩, trivial, trivial, trivial, trivial, ⟨_, rfl, lfRX2_27⟩, trivial, trivial, ⟨_, rfl, lfRX2_27, (fun z => by cases z)⟩, trivial, trivial, trivial, ⟨_, rfl, lfRX2_23⟩, trivial, trivial, trivial, trivial, ⟨_, rfl, lfRX2_23, (fun z => by cases z)⟩, trivial, trivial, ⟨_, rfl, lfRX2_30, (fun z => by cases z)⟩, trivial, trivial, trivial, trivial, trivial⟩
def tX2_stepBack : List mI := [(0, .aload_n 0, 1, 0, 0), (1, .getfield 27, 3, 2, 4), (4, .ifCond .gt 5, 3, 0, 0), (7, .iconst 0, 1, 0, 0), (8, .ireturn, 1, 0, 0), (9, .aload_n 0, 1, 0, 0), (10, .dup, 1, 0, 0), (11, .getfield 27, 3, 2, 4), (14, .iconst 1, 1, 0, 0), (15, .isub, 1, 0, 0), (16, .putfield 27, 3, 2, 4), (19, .aload_n 0, 1, 0, 0), (20, .dup, 1, 0, 0), (21, .getfield 30, 3, 2, 5), (24, .iconst 1, 1, 0, 0), (25, .iadd, 1, 0, 0), (26, .putfield 30, 3, 2, 5), (29, .aload_n 0, 1, 0, 0), (30, .aload_n 1, 1, 0, 0), (31, .invokevirtual 37, 3, 0, 0), (34, .iconst 1, 1, 0, 0), (35, .ireturn, 1, 0, 0)]
set_option maxRecDepth 100000 in
theorem kX2_stepBack : mTok cX2_stepBack RX2 2 false tX2_stepBack := mTok_of (by decide +kernel) ⟨trivial, ⟨_, rfl, lfRX2_27⟩, trivial, trivial, trivial, trivial, trivial, ⟨_, rfl, lfRX2_27⟩, trivial, trivial, ⟨_, rfl, lfRX2_27, (fun z => by cases z)⟩, trivial, trivial, ⟨_, rfl, lfRX2_30⟩, trivial, trivial, ⟨_, rfl, lfRX2_30, (fun z => by cases z)⟩, trivial, trivial, trivial, trivial, trivial, trivial⟩
def tX2_stepOn : List mI := [(0, .aload_n 0, 1, 0, 0), (1, .getfield 30, 3, 2, 5), (4, .ifCond .gt 5, 3, 0, 0), (7, .iconst 0, 1, 0, 0), (8, .ireturn, 1, 0, 0), (9, .aload_n 0, 1, 0, 0), (10, .dup, 1, 0, 0), (11, .getfield 27, 3, 2, 4), (14, .iconst 1, 1, 0, 0), (15, .iadd, 1, 0, 0), (16, .putfield 27, 3, 2, 4), (19, .aload_n 0, 1, 0, 0), (20, .dup, 1, 0, 0), (21, .getfield 30, 3, 2, 5), (24, .iconst 1, 1, 0, 0), (25, .isub, 1, 0, 0), (26, .putfield 30, 3, 2, 5), (29, .aload_n 0, 1, 0, 0), (30, .aload_n 1, 1, 0, 0), (31, .invokevirtual 37, 3, 0, 0), (34, .iconst 1, 1, 0, 0), (35, .ireturn, 1, 0, 0)]
set_option maxRecDepth 100000 in
theorem kX2_stepOn : mTok cX2_stepOn RX2 2 false tX2_stepOn := mTok_of (by decide +kernel) ⟨trivial, ⟨_, rfl, lfRX2_30⟩, trivial, trivial, trivial, trivial, trivial, ⟨_, rfl, lfRX2_27⟩, trivial, trivial, ⟨_, rfl, lfRX2_27, (fun z => by cases z)⟩, trivial, trivial, ⟨_, rfl, lfRX2_30⟩, trivial, trivial, ⟨_, rfl, lfRX2_30, (fun z => by cases z)⟩, trivial, trivial, trivial, trivial, trivial, trivial⟩
def tX2_emptyBoxes : List mI := [(0, .iconst 0, 1, 0, 0), (1, .istore_n 1, 1, 0, 0), (2, .iload_n 1, 1, 0, 0), (3, .iconst 3, 1, 0, 0), (4, .if_icmp .ge 16, 3, 0, 0), (7, .aload_n 0, 1, 0, 0), (8, .getfield 19, 3, 2, 2), (11, .iload_n 1, 1, 0, 0), (12, .iconst 0, 1, 0, 0), (13, .bastore, 1, 0, 0), (14, .iinc 1 1, 3, 0, 0), (17, .goto (-15), 3, 0, 0), (20, .return_, 1, 0, 0)]
set_option maxRecDepth 100000 in
theorem kX2_emptyBoxes : mTok cX2_emptyBoxes RX2 2 false tX2_emptyBoxes := mTok_of (by decide +kernel) ⟨trivial, trivial, trivial, trivial, trivial, trivial, ⟨_, rfl, lfRX2_19⟩, trivial, trivial, trivial, trivial, trivial, trivial, trivial⟩
def tX2_fillBox : List mI := [(0, .aload_n 2, 1, 0, 0), (1, .iconst 0, 1, 0, 0), (2, .aload_n 0, 1, 0, 0), (3, .getfield 16, 3, 2, 1), (6, .iload_n 1, 1, 0, 0), (7, .aaload, 1, 0, 0), (8, .iconst 0, 1, 0, 0), (9, .bipush 17, 2, 0, 0), (11, .invokestatic 40, 3, 0, 7777), (14, .aload_n 0, 1, 0, 0), (15, .getfield 19, 3, 2, 2), (18, .iload_n 1, 1, 0, 0), (19, .iconst 1, 1, 0, 0), (20, .bastore, 1, 0, 0), (21, .return_, 1, 0, 0)]
set_option maxRecDepth 100000 in
theorem kX2_fillBox : mTok cX2_fillBox RX2 3 false tX2_fillBox := mTok_of (by decide +kernel) ⟨trivial, trivial, trivial, ⟨_, rfl, lfRX2_16⟩, trivial, trivial, trivial, trivial, (fun _ => lmRX2_40), trivial, ⟨_, rfl, lfRX2_19⟩, trivial, trivial, trivial, trivial, trivial⟩
def tX2_openBox : List mI := [(0, .aload_n 0, 1, 0, 0), (1, .getfield 16, 3, 2, 1), (4, .iload_n 1, 1, 0, 0), (5, .aaload, 1, 0, 0), (6, .iconst 0, 1, 0, 0), (7, .aload_n 2, 1, 0, 0), (8, .iconst 0, 1, 0, 0), (9, .bipush 17, 2, 0, 0), (11, .invokestatic 40, 3, 0, 7777), (14, .return_, 1, 0, 0)]
set_option maxRecDepth 100000 in
theorem kX2_openBox : mTok cX2_openBox RX2 3 false tX2_openBox := mTok_of (by decide +kernel) ⟨trivial, ⟨_, rfl, lfRX2_16⟩, trivial, trivial, trivial, trivial, trivial, trivial, (fun _ => lmRX2_40), trivial, trivial⟩
def tX2_copyFrom : List mI := [(0, .aload_n 1, 1, 0, 0), (1, .iconst 0, 1, 0, 0), (2, .aload_n 0, 1, 0, 0), (3, .getfield 11, 3, 2, 0), (6, .aload_n 0, 1, 0, 0), (7, .getfield 23, 3, 2, 3), (10, .aload_n 0, 1, 0, 0), (11, .getfield 27, 3, 2, 4), (14, .iadd, 1, 0, 0), (15, .bipush 41, 2, 0, 0), (17, .irem, 1, 0, 0), (18, .aaload, 1, 0, 0), (19, .iconst 0, 1, 0, 0), (20, .bipush 17, 2, 0, 0), (22, .invokestatic 40, 3, 0, 7777), (25, .return_, 1, 0, 0)]
set_option maxRecDepth 100000 in
theorem kX2_copyFrom : mTok cX2_copyFrom RX2 2 false tX2_copyFrom := mTok_of (by decide +kernel) ⟨trivial, trivial, trivial, ⟨_, rfl, lfRX2_11⟩, trivial, ⟨_, rfl, lfRX2_23⟩, trivial, ⟨_, rfl, lfRX2_27⟩, trivial, trivial, trivial, trivial, trivial, trivial, (fun _ => lmRX2_40), trivial, trivial⟩
def tX2_copyTo : List mI := [(0, .aload_n 0, 1, 0, 0), (1, .getfield 11, 3, 2, 0), (4, .aload_n 0, 1, 0, 0), (5, .getfield 23, 3, 2, 3), (8, .aload_n 0, 1, 0, 0), (9, .getfield 27, 3, 2, 4), (12, .iadd, 1, 0, 0), (13, .bipush 41, 2, 0, 0), (15, .irem, 1, 0, 0), (16, .aaload, 1, 0, 0), (17, .iconst 0, 1, 0, 0), (18, .aload_n 1, 1, 0, 0), (19, .iconst 0, 1, 0, 0), (20, .bipush 17, 2, 0, 0), (22, .invokestatic 40, 3, 0, 7777), (25, .return_, 1, 0, 0)]
set_option maxRecDepth 100000 in
theorem kX2_copyTo : mTok cX2_copyTo RX2 2 false tX2_copyTo := mTok_of (by decide +kernel) ⟨trivial, ⟨_, rfl, lfRX2_11⟩, trivial, ⟨_, rfl, lfRX2_23⟩, trivial, ⟨_, rfl, lfRX2_27⟩, trivial, trivial, trivial, trivial, trivial, trivial, trivial, trivial, (fun _ => lmRX2_40), trivial, trivial⟩
def tX3_init : List mI := [(0, .aload_n 0, 1, 0, 0), (1, .invokespecial 3, 3, 0, 8888), (4, .aload_n 0, 1, 0, 0), (5, .bipush 32, 2, 0, 0), (7, .bipush 36, 2, 0, 0), (9, .multianewarray 9 2, 4, 0, 0), (13, .putfield 11, 3, 3, 0), (16, .aload_n 0, 1, 0, 0), (17, .new 16, 3, 9, 0), (20, .dup, 1, 0, 0), (21, .invokespecial 18, 3, 0, 0), (24, .putfield 19, 3, 3, 1), (27, .aload_n 0, 1, 0, 0), (28, .bipush 6, 2, 0, 0), (30, .newarray .int, 2, 0, 0), (32, .putfield 23, 3, 3, 2), (35, .aload_n 0, 1, 0, 0), (36, .iconst 5, 1, 0, 0), (37, .newarray .int, 2, 0, 0), (39, .putfield 27, 3, 3, 3), (42, .aload_n 0, 1, 0, 0), (43, .iconst 5, 1, 0, 0), (44, .newarray .int, 2, 0, 0), (46, .putfield 30, 3, 3, 4), (49, .return_, 1, 0, 0)]
set_option maxRecDepth 100000 in
theorem kX3_init : mTok cX3_init RX3 1 true tX3_init := mTok_of (by decide +kernel) ⟨trivial, (fun _ => lmRX3_3), trivial, trivial, trivial, lnRX3_9, ⟨_, rfl, lfRX3_11, fun _ => rfl⟩, trivial, ⟨_, rfl, lnRX3_16, ls_RX9, li_RX9⟩, trivial, (fun z => by cases z), ⟨_, rfl, lfRX3_19, fun _ => rfl⟩, trivial, trivial, ⟨la_int, by decide⟩, ⟨_, rfl, lfRX3_23, fun _ => rfl⟩, trivial, trivial, ⟨la_int, by decide⟩, ⟨_, rfl, lfRX3_27, fun _ => rfl⟩, trivial, trivial, ⟨la_int, by decide⟩, ⟨_, rfl, lfRX3_30, fun _ => rfl⟩, trivial, trivial⟩
def tX3_forget : List mI := [(0, .aload_n 0, 1, 0, 0), (1, .iconst 0, 1, 0, 0), (2, .putfield 33, 3, 3, 8), (5, .return_, 1, 0, 0)]
set_option maxRecDepth 100000 in
theorem kX3_forget : mTok cX3_forget RX3 1 false tX3_forget := mTok_of (by decide +kernel) ⟨trivial, trivial, ⟨_, rfl, lfRX3_33, (fun z => by cases z)⟩, trivial, trivial⟩
def tX3_learn : List mI := [(0, .aload_n 0, 1, 0, 0), (1, .getfield 33, 3, 3, 8), (4, .ifCond .eq 20, 3, 0, 0), (7, .aload_n 0, 1, 0, 0), (8, .getfield 37, 3, 3, 7), (11, .iload_n 2, 1, 0, 0), (12, .if_icmp .ne 12, 3, 0, 0), (15, .aload_n 0, 1, 0, 0), (16, .getfield 41, 3, 3, 6), (19, .iload_n 3, 1, 0, 0), (20, .if_icmp .ne 4, 3, 0, 0), (23, .return_, 1, 0, 0), (24, .aload_n 0, 1, 0, 0), (25, .iconst 1, 1, 0, 0), (26, .putfield 33, 3, 3, 8), (29, .aload_n 0, 1, 0, 0), (30, .iload_n 2, 1, 0, 0), (31, .putfield 37, 3, 3, 7), (34, .aload_n 0, 1, 0, 0), (35, .iload_n 3, 1, 0, 0), (36, .putfield 41, 3, 3, 6), (39, .iconst 0, 1, 0, 0), (40, .istore 4, 2, 0, 0), (42, .iload 4, 2, 0, 0), (44, .bipush 32, 2, 0, 0), (46, .if_icmp .ge 20, 3, 0, 0), (49, .aload_n 0, 1, 0, 0), (50, .getfield 11, 3, 3, 0), (53, .iload 4, 2, 0, 0), (55, .aaload, 1, 0, 0), (56, .iconst 0, 1, 0, 0), (57, .invokestatic 44, 3, 0, 0), (60, .iinc 4 1, 3, 0, 0), (63, .goto (-21), 3, 0, 0), (66, .aload_n 0, 1, 0, 0), (67, .getfield 19, 3, 3, 1), (70, .aload_n 0, 1, 0, 0), (71, .aload_n 1, 1, 0, 0), (72, .invokevirtual 50, 3, 0, 0), (75, .aload_n 0, 1, 0, 0), (76, .getfield 41, 3, 3, 6), (79, .invokevirtual 54, 3, 0, 0), (82, .pop, 1, 0, 0), (83, .aload_n 0, 1, 0, 0), (84, .invokevirtual 58, 3, 0, 0), (87, .aload_n 0, 1, 0, 0), (88, .aload_n 0, 1, 0, 0), (89, .getfield 37, 3, 3, 7), (92, .invokestatic 61, 3, 0, 0), (95, .iconst 1, 1, 0, 0), (96, .iadd, 1, 0, 0), (97, .putfield 67, 3, 3, 5), (100, .aload_n 0, 1, 0, 0), (101, .iconst 0, 1, 0, 0), (102, .iconst 0, 1, 0, 0), (103, .invokevirtual 70, 3, 0, 0), (106, .return_, 1, 0, 0)]
set_option maxRecDepth 100000 in
theorem kX3_learn : mTok cX3_learn RX3 5 false tX3_learn := mTok_of (by decide +kernel) ⟨trivial, ⟨_, rfl, lfRX3_33⟩, trivial, trivial, ⟨_, rfl, lfRX3_37⟩, trivial, trivial, trivial, ⟨_, rfl, lfRX3_41⟩, trivial, trivial, trivial, trivial, trivial, ⟨_, rfl, lfRX3_33, (fun z => by cases z)⟩, trivial, trivial, ⟨_, rfl, lfRX3_37, (fun z => by cases z)⟩, trivial, trivial, ⟨_, rfl, lfRX3_41, (fun z => by cases z)⟩, trivial, trivial, trivial, trivial, trivial, trivial, ⟨_, rfl, lfRX3_11⟩, trivial, trivial, trivial, (fun z => by cases z), trivial, trivial, trivial, ⟨_, rfl, lfRX3_19⟩, trivial, trivial, trivial, trivial, ⟨_, rfl, lfRX3_41⟩, trivial, trivial, trivial, trivial, trivial, trivial, ⟨_, rfl, lfRX3_37⟩, (fun z => by cases z), trivial, trivial, ⟨_, rfl, lfRX3_67, (fun z => by cases z)⟩, trivial, trivial, trivial, trivial, trivial, trivial⟩
def tX3_takeReports : List mI := [(0, .iconst 0, 1, 0, 0), (1, .istore_n 2, 1, 0, 0), (2, .iconst 0, 1, 0, 0), (3, .istore_n 3, 1, 0, 0), (4, .iload_n 3, 1, 0, 0), (5, .aload_n 1, 1, 0, 0), (6, .getfield 74, 3, 5, 5), (9, .if_icmp .ge 88, 3, 0, 0), (12, .aload_n 0, 1, 0, 0), (13, .getfield 37, 3, 3, 7), (16, .iload_n 3, 1, 0, 0), (17, .ishr, 1, 0, 0), (18, .iconst 1, 1, 0, 0), (19, .iand, 1, 0, 0), (20, .iconst 1, 1, 0, 0), (21, .if_icmp .ne 70, 3, 0, 0), (24, .aload_n 1, 1, 0, 0), (25, .getfield 79, 3, 5, 0), (28, .iload_n 3, 1, 0, 0), (29, .iaload, 1, 0, 0), (30, .istore 4, 2, 0, 0), (32, .iload_n 2, 1, 0, 0), (33, .iconst 1, 1, 0, 0), (34, .iload 4, 2, 0, 0), (36, .ishl, 1, 0, 0), (37, .ior, 1, 0, 0), (38, .istore_n 2, 1, 0, 0), (39, .iconst 0, 1, 0, 0), (40, .istore 5, 2, 0, 0), (42, .iload 5, 2, 0, 0), (44, .bipush 35, 2, 0, 0), (46, .if_icmp .gt 45, 3, 0, 0), (49, .iload 5, 2, 0, 0), (51, .aload_n 1, 1, 0, 0), (52, .getfield 82, 3, 5, 1), (55, .iload_n 3, 1, 0, 0), (56, .iaload, 1, 0, 0), (57, .if_icmp .lt 14, 3, 0, 0), (60, .iload 5, 2, 0, 0), (62, .aload_n 1, 1, 0, 0), (63, .getfield 85, 3, 5, 2), (66, .iload_n 3, 1, 0, 0), (67, .iaload, 1, 0, 0), (68, .if_icmp .le 17, 3, 0, 0), (71, .aload_n 0, 1, 0, 0), (72, .getfield 11, 3, 3, 0), (75, .iload 4, 2, 0, 0), (77, .aaload, 1, 0, 0), (78, .iload 5, 2, 0, 0), (80, .dup2, 1, 0, 0), (81, .iaload, 1, 0, 0), (82, .iconst 1, 1, 0, 0), (83, .iadd, 1, 0, 0), (84, .iastore, 1, 0, 0), (85, .iinc 5 1, 3, 0, 0), (88, .goto (-46), 3, 0, 0), (91, .iinc 3 1, 3, 0, 0), (94, .goto (-90), 3, 0, 0), (97, .iload_n 2, 1, 0, 0), (98, .ireturn, 1, 0, 0)]
set_option maxRecDepth 100000 in
theorem kX3_takeReports : mTok cX3_takeReports RX3 6 false tX3_takeReports := mTok_of (by decide +kernel) ⟨trivial, trivial, trivial, trivial, trivial, trivial, ⟨_, rfl, lfRX3_74⟩, trivial, trivial, ⟨_, rfl, lfRX3_37⟩, trivial, trivial, trivial, trivial, trivial, trivial, trivial, ⟨_, rfl, lfRX3_79⟩, trivial, trivial, trivial, trivial, trivial, trivial, trivial, trivial, trivial, trivial, trivial, trivial, trivial, trivial, trivial, trivial, ⟨_, rfl, lfRX3_82⟩, trivial, trivial, trivial, trivial, trivial, ⟨_, rfl, lfRX3_85⟩, trivial, trivial, trivial, trivial, ⟨_, rfl, lfRX3_11⟩, trivial, trivial, trivial, trivial, trivial, trivial, trivial, trivial, trivial, trivial, trivial, trivial, trivial, trivial, trivial⟩
def tX3_countOwed : List mI := [(0, .aload_n 0, 1, 0, 0), (1, .getfield 23, 3, 3, 2), (4, .aload_n 0, 1, 0, 0), (5, .getfield 41, 3, 3, 6), (8, .iconst 0, 1, 0, 0), (9, .iastore, 1, 0, 0), (10, .aload_n 0, 1, 0, 0), (11, .getfield 41, 3, 3, 6), (14, .iconst 1, 1, 0, 0), (15, .isub, 1, 0, 0), (16, .istore_n 1, 1, 0, 0), (17, .iload_n 1, 1, 0, 0), (18, .ifCond .lt 72, 3, 0, 0), (21, .aload_n 0, 1, 0, 0), (22, .getfield 23, 3, 3, 2), (25, .iload_n 1, 1, 0, 0), (26, .aload_n 0, 1, 0, 0), (27, .getfield 23, 3, 3, 2), (30, .iload_n 1, 1, 0, 0), (31, .iconst 1, 1, 0, 0), (32, .iadd, 1, 0, 0), (33, .iaload, 1, 0, 0), (34, .iastore, 1, 0, 0), (35, .iconst 0, 1, 0, 0), (36, .istore_n 2, 1, 0, 0), (37, .iload_n 2, 1, 0, 0), (38, .aload_n 0, 1, 0, 0), (39, .getfield 19, 3, 3, 1), (42, .getfield 88, 3, 9, 2), (45, .iload_n 1, 1, 0, 0), (46, .iaload, 1, 0, 0), (47, .if_icmp .ge 37, 3, 0, 0), (50, .aload_n 0, 1, 0, 0), (51, .getfield 23, 3, 3, 2), (54, .iload_n 1, 1, 0, 0), (55, .dup2, 1, 0, 0), (56, .iaload, 1, 0, 0), (57, .aload_n 0, 1, 0, 0), (58, .aload_n 0, 1, 0, 0), (59, .getfield 19, 3, 3, 1), (62, .getfield 91, 3, 9, 1), (65, .iload_n 1, 1, 0, 0), (66, .aaload, 1, 0, 0), (67, .iload_n 2, 1, 0, 0), (68, .iaload, 1, 0, 0), (69, .iconst 1, 1, 0, 0), (70, .iload_n 1, 1, 0, 0), (71, .ishl, 1, 0, 0), (72, .ior, 1, 0, 0), (73, .invokevirtual 94, 3, 0, 0), (76, .iadd, 1, 0, 0), (77, .iastore, 1, 0, 0), (78, .iinc 2 1, 3, 0, 0), (81, .goto (-44), 3, 0, 0), (84, .iinc 1 (-1), 3, 0, 0), (87, .goto (-70), 3, 0, 0), (90, .return_, 1, 0, 0)]
set_option maxRecDepth 100000 in
theorem kX3_countOwed : mTok cX3_countOwed RX3 3 false tX3_countOwed := mTok_of (by decide +kernel) ⟨trivial, ⟨_, rfl, lfRX3_23⟩, trivial, ⟨_, rfl, lfRX3_41⟩, trivial, trivial, trivial, ⟨_, rfl, lfRX3_41⟩, trivial, trivial, trivial, trivial, trivial, trivial, ⟨_, rfl, lfRX3_23⟩, trivial, trivial, ⟨_, rfl, lfRX3_23⟩, trivial, trivial, trivial, trivial, trivial, trivial, trivial, trivial, trivial, ⟨_, rfl, lfRX3_19⟩, ⟨_, rfl, lfRX3_88⟩, trivial, trivial, trivial, trivial, ⟨_, rfl, lfRX3_23⟩, trivial, trivial, trivial, trivial, trivial, ⟨_, rfl, lfRX3_19⟩, ⟨_, rfl, lfRX3_91⟩, trivial, trivial, trivial, trivial, trivial, trivial, trivial, trivial, trivial, trivial, trivial, trivial, trivial, trivial, trivial, trivial, trivial⟩
def tX3_leastAgainst : List mI := [(0, .bipush 7, 2, 0, 0), (2, .iload_n 1, 1, 0, 0), (3, .invokestatic 61, 3, 0, 0), (6, .imul, 1, 0, 0), (7, .istore_n 2, 1, 0, 0), (8, .bipush 30, 2, 0, 0), (10, .istore_n 3, 1, 0, 0), (11, .iconst 0, 1, 0, 0), (12, .istore 4, 2, 0, 0), (14, .iload 4, 2, 0, 0), (16, .iload_n 2, 1, 0, 0), (17, .if_icmp .gt 30, 3, 0, 0), (20, .iload 4, 2, 0, 0), (22, .bipush 35, 2, 0, 0), (24, .if_icmp .gt 23, 3, 0, 0), (27, .iload_n 3, 1, 0, 0), (28, .aload_n 0, 1, 0, 0), (29, .getfield 11, 3, 3, 0), (32, .iload_n 1, 1, 0, 0), (33, .aaload, 1, 0, 0), (34, .iload 4, 2, 0, 0), (36, .iaload, 1, 0, 0), (37, .invokestatic 97, 3, 0, 0), (40, .istore_n 3, 1, 0, 0), (41, .iinc 4 1, 3, 0, 0), (44, .goto (-30), 3, 0, 0), (47, .iload_n 3, 1, 0, 0), (48, .ireturn, 1, 0, 0)]
set_option maxRecDepth 100000 in
theorem kX3_leastAgainst : mTok cX3_leastAgainst RX3 5 false tX3_leastAgainst := mTok_of (by decide +kernel) ⟨trivial, trivial, (fun z => by cases z), trivial, trivial, trivial, trivial, trivial, trivial, trivial, trivial, trivial, trivial, trivial, trivial, trivial, trivial, ⟨_, rfl, lfRX3_11⟩, trivial, trivial, trivial, trivial, (fun z => by cases z), trivial, trivial, trivial, trivial, trivial, trivial⟩
def tX3_searchFrom : List mI := [(0, .iload_n 2, 1, 0, 0), (1, .aload_n 0, 1, 0, 0), (2, .getfield 23, 3, 3, 2), (5, .iload_n 1, 1, 0, 0), (6, .iaload, 1, 0, 0), (7, .iadd, 1, 0, 0), (8, .aload_n 0, 1, 0, 0), (9, .getfield 67, 3, 3, 5), (12, .if_icmp .lt 4, 3, 0, 0), (15, .return_, 1, 0, 0), (16, .iload_n 1, 1, 0, 0), (17, .aload_n 0, 1, 0, 0), (18, .getfield 41, 3, 3, 6), (21, .if_icmp .lt 26, 3, 0, 0), (24, .aload_n 0, 1, 0, 0), (25, .iload_n 2, 1, 0, 0), (26, .putfield 67, 3, 3, 5), (29, .aload_n 0, 1, 0, 0), (30, .getfield 27, 3, 3, 3), (33, .iconst 0, 1, 0, 0), (34, .aload_n 0, 1, 0, 0), (35, .getfield 30, 3, 3, 4), (38, .iconst 0, 1, 0, 0), (39, .aload_n 0, 1, 0, 0), (40, .getfield 41, 3, 3, 6), (43, .invokestatic 102, 3, 0, 7777), (46, .return_, 1, 0, 0), (47, .iconst 0, 1, 0, 0), (48, .istore_n 3, 1, 0, 0), (49, .iload_n 3, 1, 0, 0), (50, .bipush 7, 2, 0, 0), (52, .if_icmp .gt 64, 3, 0, 0), (55, .aload_n 0, 1, 0, 0), (56, .iload_n 1, 1, 0, 0), (57, .iload_n 3, 1, 0, 0), (58, .invokevirtual 108, 3, 0, 0), (61, .istore 4, 2, 0, 0), (63, .aload_n 0, 1, 0, 0), (64, .getfield 27, 3, 3, 3), (67, .iload_n 1, 1, 0, 0), (68, .iload_n 3, 1, 0, 0), (69, .iastore, 1, 0, 0), (70, .iload_n 2, 1, 0, 0), (71, .iload 4, 2, 0, 0), (73, .iadd, 1, 0, 0), (74, .aload_n 0, 1, 0, 0), (75, .getfield 23, 3, 3, 2), (78, .iload_n 1, 1, 0, 0), (79, .iconst 1, 1, 0, 0), (80, .iadd, 1, 0, 0), (81, .iaload, 1, 0, 0), (82, .iadd, 1, 0, 0), (83, .aload_n 0, 1, 0, 0), (84, .getfield 67, 3, 3, 5), (87, .if_icmp .ge 23, 3, 0, 0), (90, .aload_n 0, 1, 0, 0), (91, .getfield 19, 3, 3, 1), (94, .iload_n 1, 1, 0, 0), (95, .iload_n 3, 1, 0, 0), (96, .invokevirtual 111, 3, 0, 0), (99, .aload_n 0, 1, 0, 0), (100, .iload_n 1, 1, 0, 0), (101, .iconst 1, 1, 0, 0), (102, .iadd, 1, 0, 0), (103, .iload_n 2, 1, 0, 0), (104, .iload 4, 2, 0, 0), (106, .iadd, 1, 0, 0), (107, .invokevirtual 70, 3, 0, 0), (110, .iinc 3 1, 3, 0, 0), (113, .goto (-64), 3, 0, 0), (116, .return_, 1, 0, 0)]
set_option maxRecDepth 100000 in
theorem kX3_searchFrom : mTok cX3_searchFrom RX3 5 false tX3_searchFrom := mTok_of (by decide +kernel) ⟨trivial, trivial, ⟨_, rfl, lfRX3_23⟩, trivial, trivial, trivial, trivial, ⟨_, rfl, lfRX3_67⟩, trivial, trivial, trivial, trivial, ⟨_, rfl, lfRX3_41⟩, trivial, trivial, trivial, ⟨_, rfl, lfRX3_67, (fun z => by cases z)⟩, trivial, ⟨_, rfl, lfRX3_27⟩, trivial, trivial, ⟨_, rfl, lfRX3_30⟩, trivial, trivial, ⟨_, rfl, lfRX3_41⟩, (fun _ => lmRX3_102), trivial, trivial, trivial, trivial, trivial, trivial, trivial, trivial, trivial, trivial, trivial, trivial, ⟨_, rfl, lfRX3_27⟩, trivial, trivial, trivial, trivial, trivial, trivial, trivial, ⟨_, rfl, lfRX3_23⟩, trivial, trivial, trivial, trivial, trivial, trivial, ⟨_, rfl, lfRX3_67⟩, trivial, trivial, ⟨_, rfl, lfRX3_19⟩, trivial, trivial, trivial, trivial, trivial, trivial, trivial, trivial, trivial, trivial, trivial, trivial, trivial, trivial, trivial⟩
def tX3_againstWith : List mI := [(0, .iconst 0, 1, 0, 0), (1, .istore_n 3, 1, 0, 0), (2, .iconst 0, 1, 0, 0), (3, .istore 4, 2, 0, 0), (5, .iload 4, 2, 0, 0), (7, .aload_n 0, 1, 0, 0), (8, .getfield 19, 3, 3, 1), (11, .getfield 88, 3, 9, 2), (14, .iload_n 1, 1, 0, 0), (15, .iaload, 1, 0, 0), (16, .if_icmp .ge 50, 3, 0, 0), (19, .aload_n 0, 1, 0, 0), (20, .getfield 19, 3, 3, 1), (23, .getfield 91, 3, 9, 1), (26, .iload_n 1, 1, 0, 0), (27, .aaload, 1, 0, 0), (28, .iload 4, 2, 0, 0), (30, .iaload, 1, 0, 0), (31, .istore 5, 2, 0, 0), (33, .iload_n 3, 1, 0, 0), (34, .aload_n 0, 1, 0, 0), (35, .getfield 11, 3, 3, 0), (38, .iload 5, 2, 0, 0), (40, .iconst 1, 1, 0, 0), (41, .iload_n 1, 1, 0, 0), (42, .ishl, 1, 0, 0), (43, .ior, 1, 0, 0), (44, .aaload, 1, 0, 0), (45, .aload_n 0, 1, 0, 0), (46, .getfield 19, 3, 3, 1), (49, .getfield 114, 3, 9, 0), (52, .iload 5, 2, 0, 0), (54, .iaload, 1, 0, 0), (55, .iload_n 2, 1, 0, 0), (56, .iadd, 1, 0, 0), (57, .iaload, 1, 0, 0), (58, .iadd, 1, 0, 0), (59, .istore_n 3, 1, 0, 0), (60, .iinc 4 1, 3, 0, 0), (63, .goto (-58), 3, 0, 0), (66, .iload_n 3, 1, 0, 0), (67, .ireturn, 1, 0, 0)]
set_option maxRecDepth 100000 in
theorem kX3_againstWith : mTok cX3_againstWith RX3 6 false tX3_againstWith := mTok_of (by decide +kernel) ⟨trivial, trivial, trivial, trivial, trivial, trivial, ⟨_, rfl, lfRX3_19⟩, ⟨_, rfl, lfRX3_88⟩, trivial, trivial, trivial, trivial, ⟨_, rfl, lfRX3_19⟩, ⟨_, rfl, lfRX3_91⟩, trivial, trivial, trivial, trivial, trivial, trivial, trivial, ⟨_, rfl, lfRX3_11⟩, trivial, trivial, trivial, trivial, trivial, trivial, trivial, ⟨_, rfl, lfRX3_19⟩, ⟨_, rfl, lfRX3_114⟩, trivial, trivial, trivial, trivial, trivial, trivial, trivial, trivial, trivial, trivial, trivial, trivial⟩
def tX4_init : List mI := [(0, .aload_n 0, 1, 0, 0), (1, .invokespecial 3, 3, 0, 8888), (4, .aload_n 0, 1, 0, 0), (5, .sipush 1600, 3, 0, 0), (8, .newarray .byte, 2, 0, 0), (10, .putfield 9, 3, 4, 0), (13, .return_, 1, 0, 0)]
set_option maxRecDepth 100000 in
theorem kX4_init : mTok cX4_init RX4 1 true tX4_init := mTok_of (by decide +kernel) ⟨trivial, (fun _ => lmRX4_3), trivial, trivial, ⟨la_byte, by decide⟩, ⟨_, rfl, lfRX4_9, fun _ => rfl⟩, trivial, trivial⟩
def tX4_append : List mI := [(0, .bipush 24, 2, 0, 0), (2, .istore_n 2, 1, 0, 0), (3, .iload_n 2, 1, 0, 0), (4, .ifCond .lt 42, 3, 0, 0), (7, .aload_n 0, 1, 0, 0), (8, .getfield 15, 3, 4, 1), (11, .sipush 1600, 3, 0, 0), (14, .if_icmp .ge 32, 3, 0, 0), (17, .aload_n 0, 1, 0, 0), (18, .getfield 9, 3, 4, 0), (21, .aload_n 0, 1, 0, 0), (22, .getfield 15, 3, 4, 1), (25, .iload_n 1, 1, 0, 0), (26, .iload_n 2, 1, 0, 0), (27, .ishr, 1, 0, 0), (28, .i2b, 1, 0, 0), (29, .bastore, 1, 0, 0), (30, .aload_n 0, 1, 0, 0), (31, .dup, 1, 0, 0), (32, .getfield 15, 3, 4, 1), (35, .iconst 1, 1, 0, 0), (36, .iadd, 1, 0, 0), (37, .putfield 15, 3, 4, 1), (40, .iinc 2 (-8), 3, 0, 0), (43, .goto (-40), 3, 0, 0), (46, .return_, 1, 0, 0)]
set_option maxRecDepth 100000 in
theorem kX4_append : mTok cX4_append RX4 3 false tX4_append := mTok_of (by decide +kernel) ⟨trivial, trivial, trivial, trivial, trivial, ⟨_, rfl, lfRX4_15⟩, trivial, trivial, trivial, ⟨_, rfl, lfRX4_9⟩, trivial, ⟨_, rfl, lfRX4_15⟩, trivial, trivial, trivial, trivial, trivial, trivial, trivial, ⟨_, rfl, lfRX4_15⟩, trivial, trivial, ⟨_, rfl, lfRX4_15, (fun z => by cases z)⟩, trivial, trivial, trivial, trivial⟩
def tX4_readAll : List mI := [(0, .aload_n 1, 1, 0, 0), (1, .invokevirtual 19, 3, 0, 0), (4, .aload_n 0, 1, 0, 0), (5, .iconst 0, 1, 0, 0), (6, .putfield 24, 3, 4, 2), (9, .aload_n 0, 1, 0, 0), (10, .iconst 0, 1, 0, 0), (11, .putfield 27, 3, 4, 6), (14, .aload_n 0, 1, 0, 0), (15, .invokevirtual 30, 3, 0, 0), (18, .iconst 0, 1, 0, 0), (19, .istore_n 2, 1, 0, 0), (20, .iload_n 2, 1, 0, 0), (21, .sipush 1600, 3, 0, 0), (24, .if_icmp .ge 21, 3, 0, 0), (27, .aload_n 0, 1, 0, 0), (28, .getfield 33, 3, 4, 4), (31, .ifCond .eq 14, 3, 0, 0), (34, .aload_n 0, 1, 0, 0), (35, .aload_n 1, 1, 0, 0), (36, .invokevirtual 36, 3, 0, 0), (39, .iinc 2 1, 3, 0, 0), (42, .goto (-22), 3, 0, 0), (45, .aload_n 0, 1, 0, 0), (46, .getfield 24, 3, 4, 2), (49, .ifCond .ne 7, 3, 0, 0), (52, .iconst 1, 1, 0, 0), (53, .goto 4, 3, 0, 0), (56, .iconst 0, 1, 0, 0), (57, .ireturn, 1, 0, 0)]
set_option maxRecDepth 100000 in
theorem kX4_readAll : mTok cX4_readAll RX4 3 false tX4_readAll := mTok_of (by decide +kernel) ⟨trivial, trivial, trivial, trivial, ⟨_, rfl, lfRX4_24, (fun z => by cases z)⟩, trivial, trivial, ⟨_, rfl, lfRX4_27, (fun z => by cases z)⟩, trivial, trivial, trivial, trivial, trivial, trivial, trivial, trivial, ⟨_, rfl, lfRX4_33⟩, trivial, trivial, trivial, trivial, trivial, trivial, trivial, ⟨_, rfl, lfRX4_24⟩, trivial, trivial, trivial, trivial, trivial, trivial⟩
def tX4_readLine : List mI := [(0, .aload_n 0, 1, 0, 0), (1, .ldc 40, 2, 0, 1), (3, .invokevirtual 42, 3, 0, 0), (6, .ifCond .eq 11, 3, 0, 0), (9, .aload_n 0, 1, 0, 0), (10, .aload_n 1, 1, 0, 0), (11, .invokevirtual 46, 3, 0, 0), (14, .goto 85, 3, 0, 0), (17, .aload_n 0, 1, 0, 0), (18, .ldc 49, 2, 5, 1), (20, .invokevirtual 42, 3, 0, 0), (23, .ifCond .eq 14, 3, 0, 0), (26, .aload_n 0, 1, 0, 0), (27, .aload_n 1, 1, 0, 0), (28, .getfield 51, 3, 8, 5), (31, .invokevirtual 54, 3, 0, 0), (34, .goto 65, 3, 0, 0), (37, .aload_n 0, 1, 0, 0), (38, .ldc 58, 2, 6, 1), (40, .invokevirtual 42, 3, 0, 0), (43, .ifCond .eq 14, 3, 0, 0), (46, .aload_n 0, 1, 0, 0), (47, .aload_n 1, 1, 0, 0), (48, .getfield 60, 3, 8, 6), (51, .invokevirtual 54, 3, 0, 0), (54, .goto 45, 3, 0, 0), (57, .aload_n 0, 1, 0, 0), (58, .ldc 62, 2, 7, 1), (60, .invokevirtual 42, 3, 0, 0), (63, .ifCond .eq 14, 3, 0, 0), (66, .aload_n 0, 1, 0, 0), (67, .aload_n 1, 1, 0, 0), (68, .getfield 64, 3, 8, 7), (71, .invokevirtual 54, 3, 0, 0), (74, .goto 25, 3, 0, 0), (77, .aload_n 0, 1, 0, 0), (78, .ldc 66, 2, 8, 1), (80, .invokevirtual 42, 3, 0, 0), (83, .ifCond .eq 11, 3, 0, 0), (86, .aload_n 0, 1, 0, 0), (87, .aload_n 1, 1, 0, 0), (88, .invokevirtual 68, 3, 0, 0), (91, .goto 8, 3, 0, 0), (94, .aload_n 0, 1, 0, 0), (95, .iconst 2, 1, 0, 0), (96, .invokevirtual 71, 3, 0, 0), (99, .aload_n 0, 1, 0, 0), (100, .bipush 59, 2, 0, 0), (102, .invokevirtual 75, 3, 0, 0), (105, .return_, 1, 0, 0)]
set_option maxRecDepth 100000 in
theorem kX4_readLine : mTok cX4_readLine RX4 2 false tX4_readLine := mTok_of (by decide +kernel) ⟨trivial, ⟨rfl, _, rfl⟩, trivial, trivial, trivial, trivial, trivial, trivial, trivial, ⟨rfl, _, rfl⟩, trivial, trivial, trivial, trivial, ⟨_, rfl, lfRX4_51⟩, trivial, trivial, trivial, ⟨rfl, _, rfl⟩, trivial, trivial, trivial, trivial, ⟨_, rfl, lfRX4_60⟩, trivial, trivial, trivial, ⟨rfl, _, rfl⟩, trivial, trivial, trivial, trivial, ⟨_, rfl, lfRX4_64⟩, trivial, trivial, trivial, ⟨rfl, _, rfl⟩, trivial, trivial, trivial, trivial, trivial, trivial, trivial, trivial, trivial, trivial, trivial, trivial, trivial, trivial⟩
def tX4_readHouse : List mI := [(0, .aload_n 1, 1, 0, 0), (1, .getfield 79, 3, 8, 9), (4, .iconst 5, 1, 0, 0), (5, .if_icmp .lt 8, 3, 0, 0), (8, .aload_n 0, 1, 0, 0), (9, .iconst 2, 1, 0, 0), (10, .invokevirtual 71, 3, 0, 0), (13, .aload_n 0, 1, 0, 0), (14, .invokevirtual 30, 3, 0, 0), (17, .aload_n 0, 1, 0, 0), (18, .aload_n 1, 1, 0, 0), (19, .invokevirtual 82, 3, 0, 0), (22, .lstore_n 2, 1, 0, 0), (23, .aload_n 0, 1, 0, 0), (24, .ldc 86, 2, 1, 1), (26, .bipush 60, 2, 0, 0), (28, .invokevirtual 87, 3, 0, 0), (31, .istore 4, 2, 0, 0), (33, .aload_n 0, 1, 0, 0), (34, .ldc 91, 2, 2, 1), (36, .bipush 7, 2, 0, 0), (38, .invokevirtual 87, 3, 0, 0), (41, .istore 5, 2, 0, 0), (43, .aload_n 0, 1, 0, 0), (44, .ldc 93, 2, 3, 1), (46, .invokevirtual 42, 3, 0, 0), (49, .ifCond .eq 14, 3, 0, 0), (52, .aload_n 0, 1, 0, 0), (53, .ldc 93, 2, 3, 1), (55, .bipush 9, 2, 0, 0), (57, .invokevirtual 87, 3, 0, 0), (60, .goto 4, 3, 0, 0), (63, .iconst 0, 1, 0, 0), (64, .istore 6, 2, 0, 0), (66, .aload_n 0, 1, 0, 0), (67, .ldc 95, 2, 4, 1), (69, .invokevirtual 42, 3, 0, 0), (72, .ifCond .eq 14, 3, 0, 0), (75, .aload_n 0, 1, 0, 0), (76, .ldc 95, 2, 4, 1), (78, .bipush 9, 2, 0, 0), (80, .invokevirtual 87, 3, 0, 0), (83, .goto 4, 3, 0, 0), (86, .iconst 0, 1, 0, 0), (87, .istore 7, 2, 0, 0), (89, .aload_n 1, 1, 0, 0), (90, .lload_n 2, 1, 0, 0), (91, .iload 4, 2, 0, 0), (93, .iload 5, 2, 0, 0), (95, .iload 6, 2, 0, 0), (97, .iload 7, 2, 0, 0), (99, .invokevirtual 97, 3, 0, 0), (102, .return_, 1, 0, 0)]
set_option maxRecDepth 100000 in
theorem kX4_readHouse : mTok cX4_readHouse RX4 8 false tX4_readHouse := mTok_of (by decide +kernel) ⟨trivial, ⟨_, rfl, lfRX4_79⟩, trivial, trivial, trivial, trivial, trivial, trivial, trivial, trivial, trivial, trivial, trivial, trivial, ⟨rfl, _, rfl⟩, trivial, trivial, trivial, trivial, ⟨rfl, _, rfl⟩, trivial, trivial, trivial, trivial, ⟨rfl, _, rfl⟩, trivial, trivial, trivial, ⟨rfl, _, rfl⟩, trivial, trivial, trivial, trivial, trivial, trivial, ⟨rfl, _, rfl⟩, trivial, trivial, trivial, ⟨rfl, _, rfl⟩, trivial, trivial, trivial, trivial, trivial, trivial, trivial, trivial, trivial, trivial, trivial, trivial, trivial, trivial⟩
def tX4_readDraw : List mI := [(0, .aload_n 1, 1, 0, 0), (1, .getfield 101, 3, 8, 11), (4, .ifCond .eq 8, 3, 0, 0), (7, .aload_n 0, 1, 0, 0), (8, .iconst 2, 1, 0, 0), (9, .invokevirtual 71, 3, 0, 0), (12, .aload_n 1, 1, 0, 0), (13, .iconst 1, 1, 0, 0), (14, .putfield 101, 3, 8, 11), (17, .aload_n 1, 1, 0, 0), (18, .aload_n 0, 1, 0, 0), (19, .ldc 66, 2, 8, 1), (21, .sipush 999, 3, 0, 0), (24, .invokevirtual 87, 3, 0, 0), (27, .putfield 105, 3, 8, 10), (30, .return_, 1, 0, 0)]
set_option maxRecDepth 100000 in
theorem kX4_readDraw : mTok cX4_readDraw RX4 2 false tX4_readDraw := mTok_of (by decide +kernel) ⟨trivial, ⟨_, rfl, lfRX4_101⟩, trivial, trivial, trivial, trivial, trivial, trivial, ⟨_, rfl, lfRX4_101, (fun z => by cases z)⟩, trivial, trivial, ⟨rfl, _, rfl⟩, trivial, trivial, ⟨_, rfl, lfRX4_105, (fun z => by cases z)⟩, trivial, trivial⟩
def tX4_readLaw : List mI := [(0, .aload_n 1, 1, 0, 0), (1, .getfield 107, 3, 0, 4), (4, .ifCond .eq 8, 3, 0, 0), (7, .aload_n 0, 1, 0, 0), (8, .iconst 2, 1, 0, 0), (9, .invokevirtual 71, 3, 0, 0), (12, .aload_n 1, 1, 0, 0), (13, .iconst 1, 1, 0, 0), (14, .putfield 107, 3, 0, 4), (17, .aload_n 0, 1, 0, 0), (18, .invokevirtual 30, 3, 0, 0), (21, .aload_n 0, 1, 0, 0), (22, .aload_n 1, 1, 0, 0), (23, .iconst 0, 1, 0, 0), (24, .invokevirtual 112, 3, 0, 0), (27, .return_, 1, 0, 0)]
set_option maxRecDepth 100000 in
theorem kX4_readLaw : mTok cX4_readLaw RX4 2 false tX4_readLaw := mTok_of (by decide +kernel) ⟨trivial, ⟨_, rfl, lfRX4_107⟩, trivial, trivial, trivial, trivial, trivial, trivial, ⟨_, rfl, lfRX4_107, (fun z => by cases z)⟩, trivial, trivial, trivial, trivial, trivial, trivial, trivial, trivial⟩
def tX4_readEither : List mI := [(0, .aload_n 0, 1, 0, 0), (1, .aload_n 1, 1, 0, 0), (2, .iload_n 2, 1, 0, 0), (3, .invokevirtual 116, 3, 0, 0), (6, .iconst 0, 1, 0, 0), (7, .istore_n 3, 1, 0, 0), (8, .iload_n 3, 1, 0, 0), (9, .sipush 1600, 3, 0, 0), (12, .if_icmp .ge 35, 3, 0, 0), (15, .aload_n 0, 1, 0, 0), (16, .ldc 119, 2, 9, 1), (18, .invokevirtual 42, 3, 0, 0), (21, .ifCond .eq 26, 3, 0, 0), (24, .aload_n 0, 1, 0, 0), (25, .invokevirtual 30, 3, 0, 0), (28, .aload_n 0, 1, 0, 0), (29, .aload_n 1, 1, 0, 0), (30, .iload_n 2, 1, 0, 0), (31, .invokevirtual 116, 3, 0, 0), (34, .aload_n 1, 1, 0, 0), (35, .sipush 20124, 3, 0, 0), (38, .invokevirtual 121, 3, 0, 0), (41, .iinc 3 1, 3, 0, 0), (44, .goto (-36), 3, 0, 0), (47, .return_, 1, 0, 0)]
set_option maxRecDepth 100000 in
theorem kX4_readEither : mTok cX4_readEither RX4 4 false tX4_readEither := mTok_of (by decide +kernel) ⟨trivial, trivial, trivial, trivial, trivial, trivial, trivial, trivial, trivial, trivial, ⟨rfl, _, rfl⟩, trivial, trivial, trivial, trivial, trivial, trivial, trivial, trivial, trivial, trivial, trivial, trivial, trivial, trivial, trivial⟩
def tX4_readBoth : List mI := [(0, .aload_n 0, 1, 0, 0), (1, .aload_n 1, 1, 0, 0), (2, .iload_n 2, 1, 0, 0), (3, .invokevirtual 124, 3, 0, 0), (6, .iconst 0, 1, 0, 0), (7, .istore_n 3, 1, 0, 0), (8, .iload_n 3, 1, 0, 0), (9, .sipush 1600, 3, 0, 0), (12, .if_icmp .ge 35, 3, 0, 0), (15, .aload_n 0, 1, 0, 0), (16, .ldc 127, 2, 10, 1), (18, .invokevirtual 42, 3, 0, 0), (21, .ifCond .eq 26, 3, 0, 0), (24, .aload_n 0, 1, 0, 0), (25, .invokevirtual 30, 3, 0, 0), (28, .aload_n 0, 1, 0, 0), (29, .aload_n 1, 1, 0, 0), (30, .iload_n 2, 1, 0, 0), (31, .invokevirtual 124, 3, 0, 0), (34, .aload_n 1, 1, 0, 0), (35, .sipush 20038, 3, 0, 0), (38, .invokevirtual 121, 3, 0, 0), (41, .iinc 3 1, 3, 0, 0), (44, .goto (-36), 3, 0, 0), (47, .return_, 1, 0, 0)]
set_option maxRecDepth 100000 in
theorem kX4_readBoth : mTok cX4_readBoth RX4 4 false tX4_readBoth := mTok_of (by decide +kernel) ⟨trivial, trivial, trivial, trivial, trivial, trivial, trivial, trivial, trivial, trivial, ⟨rfl, _, rfl⟩, trivial, trivial, trivial, trivial, trivial, trivial, trivial, trivial, trivial, trivial, trivial, trivial, trivial, trivial, trivial⟩
def tX4_readOne : List mI := [(0, .aload_n 0, 1, 0, 0), (1, .ldc 129, 2, 11, 1), (3, .invokevirtual 42, 3, 0, 0), (6, .ifCond .eq 35, 3, 0, 0), (9, .iload_n 2, 1, 0, 0), (10, .bipush 6, 2, 0, 0), (12, .if_icmp .le 9, 3, 0, 0), (15, .aload_n 0, 1, 0, 0), (16, .iconst 2, 1, 0, 0), (17, .invokevirtual 71, 3, 0, 0), (20, .return_, 1, 0, 0), (21, .aload_n 0, 1, 0, 0), (22, .invokevirtual 30, 3, 0, 0), (25, .aload_n 0, 1, 0, 0), (26, .aload_n 1, 1, 0, 0), (27, .iload_n 2, 1, 0, 0), (28, .iconst 1, 1, 0, 0), (29, .iadd, 1, 0, 0), (30, .invokevirtual 124, 3, 0, 0), (33, .aload_n 1, 1, 0, 0), (34, .sipush 20033, 3, 0, 0), (37, .invokevirtual 121, 3, 0, 0), (40, .return_, 1, 0, 0), (41, .aload_n 0, 1, 0, 0), (42, .aload_n 1, 1, 0, 0), (43, .iload_n 2, 1, 0, 0), (44, .invokevirtual 131, 3, 0, 0), (47, .aload_n 0, 1, 0, 0), (48, .bipush 60, 2, 0, 0), (50, .invokevirtual 134, 3, 0, 0), (53, .ifCond .ne 21, 3, 0, 0), (56, .aload_n 0, 1, 0, 0), (57, .bipush 62, 2, 0, 0), (59, .invokevirtual 134, 3, 0, 0), (62, .ifCond .ne 12, 3, 0, 0), (65, .aload_n 0, 1, 0, 0), (66, .bipush 61, 2, 0, 0), (68, .invokevirtual 134, 3, 0, 0), (71, .ifCond .eq 27, 3, 0, 0), (74, .aload_n 0, 1, 0, 0), (75, .getfield 138, 3, 4, 9), (78, .istore_n 3, 1, 0, 0), (79, .aload_n 0, 1, 0, 0), (80, .invokevirtual 30, 3, 0, 0), (83, .aload_n 0, 1, 0, 0), (84, .aload_n 1, 1, 0, 0), (85, .iload_n 2, 1, 0, 0), (86, .invokevirtual 131, 3, 0, 0), (89, .aload_n 1, 1, 0, 0), (90, .sipush 20000, 3, 0, 0), (93, .iload_n 3, 1, 0, 0), (94, .iadd, 1, 0, 0), (95, .invokevirtual 121, 3, 0, 0), (98, .return_, 1, 0, 0)]
set_option maxRecDepth 100000 in
theorem kX4_readOne : mTok cX4_readOne RX4 4 false tX4_readOne := mTok_of (by decide +kernel) ⟨trivial, ⟨rfl, _, rfl⟩, trivial, trivial, trivial, trivial, trivial, trivial, trivial, trivial, trivial, trivial, trivial, trivial, trivial, trivial, trivial, trivial, trivial, trivial, trivial, trivial, trivial, trivial, trivial, trivial, trivial, trivial, trivial, trivial, trivial, trivial, trivial, trivial, trivial, trivial, trivial, trivial, trivial, trivial, ⟨_, rfl, lfRX4_138⟩, trivial, trivial, trivial, trivial, trivial, trivial, trivial, trivial, trivial, trivial, trivial, trivial, trivial, trivial⟩
def tX4_readSum : List mI := [(0, .aload_n 0, 1, 0, 0), (1, .aload_n 1, 1, 0, 0), (2, .iload_n 2, 1, 0, 0), (3, .invokevirtual 142, 3, 0, 0), (6, .iconst 0, 1, 0, 0), (7, .istore_n 3, 1, 0, 0), (8, .iload_n 3, 1, 0, 0), (9, .sipush 1600, 3, 0, 0), (12, .if_icmp .ge 53, 3, 0, 0), (15, .aload_n 0, 1, 0, 0), (16, .bipush 43, 2, 0, 0), (18, .invokevirtual 134, 3, 0, 0), (21, .ifCond .ne 12, 3, 0, 0), (24, .aload_n 0, 1, 0, 0), (25, .bipush 45, 2, 0, 0), (27, .invokevirtual 134, 3, 0, 0), (30, .ifCond .eq 35, 3, 0, 0), (33, .aload_n 0, 1, 0, 0), (34, .getfield 138, 3, 4, 9), (37, .istore 4, 2, 0, 0), (39, .aload_n 0, 1, 0, 0), (40, .invokevirtual 30, 3, 0, 0), (43, .aload_n 0, 1, 0, 0), (44, .aload_n 1, 1, 0, 0), (45, .iload_n 2, 1, 0, 0), (46, .invokevirtual 142, 3, 0, 0), (49, .aload_n 1, 1, 0, 0), (50, .sipush 20000, 3, 0, 0), (53, .iload 4, 2, 0, 0), (55, .iadd, 1, 0, 0), (56, .invokevirtual 121, 3, 0, 0), (59, .iinc 3 1, 3, 0, 0), (62, .goto (-54), 3, 0, 0), (65, .return_, 1, 0, 0)]
set_option maxRecDepth 100000 in
theorem kX4_readSum : mTok cX4_readSum RX4 5 false tX4_readSum := mTok_of (by decide +kernel) ⟨trivial, trivial, trivial, trivial, trivial, trivial, trivial, trivial, trivial, trivial, trivial, trivial, trivial, trivial, trivial, trivial, trivial, trivial, ⟨_, rfl, lfRX4_138⟩, trivial, trivial, trivial, trivial, trivial, trivial, trivial, trivial, trivial, trivial, trivial, trivial, trivial, trivial, trivial, trivial⟩
def tX4_readTerm : List mI := [(0, .aload_n 0, 1, 0, 0), (1, .aload_n 1, 1, 0, 0), (2, .iload_n 2, 1, 0, 0), (3, .invokevirtual 145, 3, 0, 0), (6, .iconst 0, 1, 0, 0), (7, .istore_n 3, 1, 0, 0), (8, .iload_n 3, 1, 0, 0), (9, .sipush 1600, 3, 0, 0), (12, .if_icmp .ge 62, 3, 0, 0), (15, .aload_n 0, 1, 0, 0), (16, .bipush 42, 2, 0, 0), (18, .invokevirtual 134, 3, 0, 0), (21, .ifCond .ne 21, 3, 0, 0), (24, .aload_n 0, 1, 0, 0), (25, .bipush 47, 2, 0, 0), (27, .invokevirtual 134, 3, 0, 0), (30, .ifCond .ne 12, 3, 0, 0), (33, .aload_n 0, 1, 0, 0), (34, .bipush 37, 2, 0, 0), (36, .invokevirtual 134, 3, 0, 0), (39, .ifCond .eq 35, 3, 0, 0), (42, .aload_n 0, 1, 0, 0), (43, .getfield 138, 3, 4, 9), (46, .istore 4, 2, 0, 0), (48, .aload_n 0, 1, 0, 0), (49, .invokevirtual 30, 3, 0, 0), (52, .aload_n 0, 1, 0, 0), (53, .aload_n 1, 1, 0, 0), (54, .iload_n 2, 1, 0, 0), (55, .invokevirtual 145, 3, 0, 0), (58, .aload_n 1, 1, 0, 0), (59, .sipush 20000, 3, 0, 0), (62, .iload 4, 2, 0, 0), (64, .iadd, 1, 0, 0), (65, .invokevirtual 121, 3, 0, 0), (68, .iinc 3 1, 3, 0, 0), (71, .goto (-63), 3, 0, 0), (74, .return_, 1, 0, 0)]
set_option maxRecDepth 100000 in
theorem kX4_readTerm : mTok cX4_readTerm RX4 5 false tX4_readTerm := mTok_of (by decide +kernel) ⟨trivial, trivial, trivial, trivial, trivial, trivial, trivial, trivial, trivial, trivial, trivial, trivial, trivial, trivial, trivial, trivial, trivial, trivial, trivial, trivial, trivial, trivial, ⟨_, rfl, lfRX4_138⟩, trivial, trivial, trivial, trivial, trivial, trivial, trivial, trivial, trivial, trivial, trivial, trivial, trivial, trivial, trivial, trivial⟩
def tX4_readUnit : List mI := [(0, .aload_n 1, 1, 0, 0), (1, .getfield 148, 3, 0, 3), (4, .bipush 30, 2, 0, 0), (6, .if_icmp .lt 9, 3, 0, 0), (9, .aload_n 0, 1, 0, 0), (10, .iconst 2, 1, 0, 0), (11, .invokevirtual 71, 3, 0, 0), (14, .return_, 1, 0, 0), (15, .aload_n 1, 1, 0, 0), (16, .dup, 1, 0, 0), (17, .getfield 148, 3, 0, 3), (20, .iconst 1, 1, 0, 0), (21, .iadd, 1, 0, 0), (22, .putfield 148, 3, 0, 3), (25, .aload_n 0, 1, 0, 0), (26, .invokevirtual 151, 3, 0, 0), (29, .istore_n 3, 1, 0, 0), (30, .aload_n 0, 1, 0, 0), (31, .getfield 33, 3, 4, 4), (34, .iconst 2, 1, 0, 0), (35, .if_icmp .ne 18, 3, 0, 0), (38, .aload_n 1, 1, 0, 0), (39, .aload_n 0, 1, 0, 0), (40, .getfield 155, 3, 4, 7), (43, .invokevirtual 121, 3, 0, 0), (46, .aload_n 0, 1, 0, 0), (47, .invokevirtual 30, 3, 0, 0), (50, .goto 65, 3, 0, 0), (53, .iload_n 3, 1, 0, 0), (54, .iconst (-1), 1, 0, 0), (55, .if_icmp .eq 19, 3, 0, 0), (58, .aload_n 1, 1, 0, 0), (59, .sipush 10000, 3, 0, 0), (62, .iload_n 3, 1, 0, 0), (63, .iadd, 1, 0, 0), (64, .invokevirtual 121, 3, 0, 0), (67, .aload_n 0, 1, 0, 0), (68, .invokevirtual 30, 3, 0, 0), (71, .goto 44, 3, 0, 0), (74, .aload_n 0, 1, 0, 0), (75, .bipush 40, 2, 0, 0), (77, .invokevirtual 134, 3, 0, 0), (80, .ifCond .eq 30, 3, 0, 0), (83, .iload_n 2, 1, 0, 0), (84, .bipush 6, 2, 0, 0), (86, .if_icmp .gt 24, 3, 0, 0), (89, .aload_n 0, 1, 0, 0), (90, .invokevirtual 30, 3, 0, 0), (93, .aload_n 0, 1, 0, 0), (94, .aload_n 1, 1, 0, 0), (95, .iload_n 2, 1, 0, 0), (96, .iconst 1, 1, 0, 0), (97, .iadd, 1, 0, 0), (98, .invokevirtual 112, 3, 0, 0), (101, .aload_n 0, 1, 0, 0), (102, .bipush 41, 2, 0, 0), (104, .invokevirtual 75, 3, 0, 0), (107, .goto 8, 3, 0, 0), (110, .aload_n 0, 1, 0, 0), (111, .iconst 2, 1, 0, 0), (112, .invokevirtual 71, 3, 0, 0), (115, .return_, 1, 0, 0)]
set_option maxRecDepth 100000 in
theorem kX4_readUnit : mTok cX4_readUnit RX4 4 false tX4_readUnit := mTok_of (by decide +kernel) ⟨trivial, ⟨_, rfl, lfRX4_148⟩, trivial, trivial, trivial, trivial, trivial, trivial, trivial, trivial, ⟨_, rfl, lfRX4_148⟩, trivial, trivial, ⟨_, rfl, lfRX4_148, (fun z => by cases z)⟩, trivial, trivial, trivial, trivial, ⟨_, rfl, lfRX4_33⟩, trivial, trivial, trivial, trivial, ⟨_, rfl, lfRX4_155⟩, trivial, trivial, trivial, trivial, trivial, trivial, trivial, trivial, trivial, trivial, trivial, trivial, trivial, trivial, trivial, trivial, trivial, trivial, trivial, trivial, trivial, trivial, trivial, trivial, trivial, trivial, trivial, trivial, trivial, trivial, trivial, trivial, trivial, trivial, trivial, trivial, trivial, trivial, trivial⟩
def tX4_valueNamed : List mI := [(0, .aload_n 0, 1, 0, 0), (1, .ldc 91, 2, 2, 1), (3, .invokevirtual 42, 3, 0, 0), (6, .ifCond .eq 5, 3, 0, 0), (9, .iconst 0, 1, 0, 0), (10, .ireturn, 1, 0, 0), (11, .aload_n 0, 1, 0, 0), (12, .ldc 158, 2, 12, 1), (14, .invokevirtual 42, 3, 0, 0), (17, .ifCond .eq 5, 3, 0, 0), (20, .iconst 1, 1, 0, 0), (21, .ireturn, 1, 0, 0), (22, .aload_n 0, 1, 0, 0), (23, .ldc 93, 2, 3, 1), (25, .invokevirtual 42, 3, 0, 0), (28, .ifCond .eq 5, 3, 0, 0), (31, .iconst 2, 1, 0, 0), (32, .ireturn, 1, 0, 0), (33, .aload_n 0, 1, 0, 0), (34, .ldc 95, 2, 4, 1), (36, .invokevirtual 42, 3, 0, 0), (39, .ifCond .eq 5, 3, 0, 0), (42, .iconst 3, 1, 0, 0), (43, .ireturn, 1, 0, 0), (44, .aload_n 0, 1, 0, 0), (45, .ldc 160, 2, 13, 1), (47, .invokevirtual 42, 3, 0, 0), (50, .ifCond .eq 5, 3, 0, 0), (53, .iconst 4, 1, 0, 0), (54, .ireturn, 1, 0, 0), (55, .aload_n 0, 1, 0, 0), (56, .ldc 162, 2, 14, 1), (58, .invokevirtual 42, 3, 0, 0), (61, .ifCond .eq 7, 3, 0, 0), (64, .iconst 5, 1, 0, 0), (65, .goto 4, 3, 0, 0), (68, .iconst (-1), 1, 0, 0), (69, .ireturn, 1, 0, 0)]
set_option maxRecDepth 100000 in
theorem kX4_valueNamed : mTok cX4_valueNamed RX4 1 false tX4_valueNamed := mTok_of (by decide +kernel) ⟨trivial, ⟨rfl, _, rfl⟩, trivial, trivial, trivial, trivial, trivial, ⟨rfl, _, rfl⟩, trivial, trivial, trivial, trivial, trivial, ⟨rfl, _, rfl⟩, trivial, trivial, trivial, trivial, trivial, ⟨rfl, _, rfl⟩, trivial, trivial, trivial, trivial, trivial, ⟨rfl, _, rfl⟩, trivial, trivial, trivial, trivial, trivial, ⟨rfl, _, rfl⟩, trivial, trivial, trivial, trivial, trivial, trivial, trivial⟩
def tX4_standsForItself : List mI := [(0, .aload_n 0, 1, 0, 0), (1, .ldc 40, 2, 0, 1), (3, .invokevirtual 42, 3, 0, 0), (6, .ifCond .ne 129, 3, 0, 0), (9, .aload_n 0, 1, 0, 0), (10, .ldc 86, 2, 1, 1), (12, .invokevirtual 42, 3, 0, 0), (15, .ifCond .ne 120, 3, 0, 0), (18, .aload_n 0, 1, 0, 0), (19, .ldc 91, 2, 2, 1), (21, .invokevirtual 42, 3, 0, 0), (24, .ifCond .ne 111, 3, 0, 0), (27, .aload_n 0, 1, 0, 0), (28, .ldc 93, 2, 3, 1), (30, .invokevirtual 42, 3, 0, 0), (33, .ifCond .ne 102, 3, 0, 0), (36, .aload_n 0, 1, 0, 0), (37, .ldc 95, 2, 4, 1), (39, .invokevirtual 42, 3, 0, 0), (42, .ifCond .ne 93, 3, 0, 0), (45, .aload_n 0, 1, 0, 0), (46, .ldc 49, 2, 5, 1), (48, .invokevirtual 42, 3, 0, 0), (51, .ifCond .ne 84, 3, 0, 0), (54, .aload_n 0, 1, 0, 0), (55, .ldc 58, 2, 6, 1), (57, .invokevirtual 42, 3, 0, 0), (60, .ifCond .ne 75, 3, 0, 0), (63, .aload_n 0, 1, 0, 0), (64, .ldc 62, 2, 7, 1), (66, .invokevirtual 42, 3, 0, 0), (69, .ifCond .ne 66, 3, 0, 0), (72, .aload_n 0, 1, 0, 0), (73, .ldc 66, 2, 8, 1), (75, .invokevirtual 42, 3, 0, 0), (78, .ifCond .ne 57, 3, 0, 0), (81, .aload_n 0, 1, 0, 0), (82, .ldc 119, 2, 9, 1), (84, .invokevirtual 42, 3, 0, 0), (87, .ifCond .ne 48, 3, 0, 0), (90, .aload_n 0, 1, 0, 0), (91, .ldc 127, 2, 10, 1), (93, .invokevirtual 42, 3, 0, 0), (96, .ifCond .ne 39, 3, 0, 0), (99, .aload_n 0, 1, 0, 0), (100, .ldc 129, 2, 11, 1), (102, .invokevirtual 42, 3, 0, 0), (105, .ifCond .ne 30, 3, 0, 0), (108, .aload_n 0, 1, 0, 0), (109, .ldc 158, 2, 12, 1), (111, .invokevirtual 42, 3, 0, 0), (114, .ifCond .ne 21, 3, 0, 0), (117, .aload_n 0, 1, 0, 0), (118, .ldc 160, 2, 13, 1), (120, .invokevirtual 42, 3, 0, 0), (123, .ifCond .ne 12, 3, 0, 0), (126, .aload_n 0, 1, 0, 0), (127, .ldc 162, 2, 14, 1), (129, .invokevirtual 42, 3, 0, 0), (132, .ifCond .eq 7, 3, 0, 0), (135, .iconst 1, 1, 0, 0), (136, .goto 4, 3, 0, 0), (139, .iconst 0, 1, 0, 0), (140, .ireturn, 1, 0, 0)]
set_option maxRecDepth 100000 in
theorem kX4_standsForItself : mTok cX4_standsForItself RX4 1 false tX4_standsForItself := mTok_of (by decide +kernel) ⟨trivial, ⟨rfl, _, rfl⟩, trivial, trivial, trivial, ⟨rfl, _, rfl⟩, trivial, trivial, trivial, ⟨rfl, _, rfl⟩, trivial, trivial, trivial, ⟨rfl, _, rfl⟩, trivial, trivial, trivial, ⟨rfl, _, rfl⟩, trivial, trivial, trivial, ⟨rfl, _, rfl⟩, trivial, trivial, trivial, ⟨rfl, _, rfl⟩, trivial, trivial, trivial, ⟨rfl, _, rfl⟩, trivial, trivial, trivial, ⟨rfl, _, rfl⟩, trivial, trivial, trivial, ⟨rfl, _, rfl⟩, trivial, trivial, trivial, ⟨rfl, _, rfl⟩, trivial, trivial, trivial, ⟨rfl, _, rfl⟩, trivial, trivial, trivial, ⟨rfl, _, rfl⟩, trivial, trivial, trivial, ⟨rfl, _, rfl⟩, trivial, trivial, trivial, ⟨rfl, _, rfl⟩, trivial, trivial, trivial, trivial, trivial, trivial, trivial⟩
def tX4_takeName : List mI := [(0, .aload_n 0, 1, 0, 0), (1, .getfield 164, 3, 4, 8), (4, .lstore_n 2, 1, 0, 0), (5, .aload_n 0, 1, 0, 0), (6, .getfield 33, 3, 4, 4), (9, .iconst 1, 1, 0, 0), (10, .if_icmp .ne 10, 3, 0, 0), (13, .aload_n 0, 1, 0, 0), (14, .invokevirtual 168, 3, 0, 0), (17, .ifCond .eq 11, 3, 0, 0), (20, .aload_n 0, 1, 0, 0), (21, .iconst 2, 1, 0, 0), (22, .invokevirtual 71, 3, 0, 0), (25, .goto 16, 3, 0, 0), (28, .aload_n 1, 1, 0, 0), (29, .lload_n 2, 1, 0, 0), (30, .invokevirtual 172, 3, 0, 0), (33, .ifCond .eq 8, 3, 0, 0), (36, .aload_n 0, 1, 0, 0), (37, .iconst 3, 1, 0, 0), (38, .invokevirtual 71, 3, 0, 0), (41, .aload_n 0, 1, 0, 0), (42, .invokevirtual 30, 3, 0, 0), (45, .lload_n 2, 1, 0, 0), (46, .lreturn, 1, 0, 0)]
set_option maxRecDepth 100000 in
theorem kX4_takeName : mTok cX4_takeName RX4 4 false tX4_takeName := mTok_of (by decide +kernel) ⟨trivial, ⟨_, rfl, lfRX4_164⟩, trivial, trivial, ⟨_, rfl, lfRX4_33⟩, trivial, trivial, trivial, trivial, trivial, trivial, trivial, trivial, trivial, trivial, trivial, trivial, trivial, trivial, trivial, trivial, trivial, trivial, trivial, trivial, trivial⟩
def tX4_takeTold : List mI := [(0, .aload_n 0, 1, 0, 0), (1, .aload_n 1, 1, 0, 0), (2, .invokevirtual 42, 3, 0, 0), (5, .ifCond .ne 8, 3, 0, 0), (8, .aload_n 0, 1, 0, 0), (9, .iconst 2, 1, 0, 0), (10, .invokevirtual 71, 3, 0, 0), (13, .aload_n 0, 1, 0, 0), (14, .invokevirtual 30, 3, 0, 0), (17, .aload_n 0, 1, 0, 0), (18, .getfield 155, 3, 4, 7), (21, .istore_n 3, 1, 0, 0), (22, .aload_n 0, 1, 0, 0), (23, .getfield 33, 3, 4, 4), (26, .iconst 2, 1, 0, 0), (27, .if_icmp .eq 11, 3, 0, 0), (30, .aload_n 0, 1, 0, 0), (31, .iconst 2, 1, 0, 0), (32, .invokevirtual 71, 3, 0, 0), (35, .goto 13, 3, 0, 0), (38, .iload_n 3, 1, 0, 0), (39, .iload_n 2, 1, 0, 0), (40, .if_icmp .le 8, 3, 0, 0), (43, .aload_n 0, 1, 0, 0), (44, .iconst 4, 1, 0, 0), (45, .invokevirtual 71, 3, 0, 0), (48, .aload_n 0, 1, 0, 0), (49, .invokevirtual 30, 3, 0, 0), (52, .iload_n 3, 1, 0, 0), (53, .ireturn, 1, 0, 0)]
set_option maxRecDepth 100000 in
theorem kX4_takeTold : mTok cX4_takeTold RX4 4 false tX4_takeTold := mTok_of (by decide +kernel) ⟨trivial, trivial, trivial, trivial, trivial, trivial, trivial, trivial, trivial, trivial, ⟨_, rfl, lfRX4_155⟩, trivial, trivial, ⟨_, rfl, lfRX4_33⟩, trivial, trivial, trivial, trivial, trivial, trivial, trivial, trivial, trivial, trivial, trivial, trivial, trivial, trivial, trivial, trivial, trivial⟩
def tX4_takeSign : List mI := [(0, .aload_n 0, 1, 0, 0), (1, .iload_n 1, 1, 0, 0), (2, .invokevirtual 134, 3, 0, 0), (5, .ifCond .ne 8, 3, 0, 0), (8, .aload_n 0, 1, 0, 0), (9, .iconst 2, 1, 0, 0), (10, .invokevirtual 71, 3, 0, 0), (13, .aload_n 0, 1, 0, 0), (14, .invokevirtual 30, 3, 0, 0), (17, .return_, 1, 0, 0)]
set_option maxRecDepth 100000 in
theorem kX4_takeSign : mTok cX4_takeSign RX4 2 false tX4_takeSign := mTok_of (by decide +kernel) ⟨trivial, trivial, trivial, trivial, trivial, trivial, trivial, trivial, trivial, trivial, trivial⟩
def tX4_isSign : List mI := [(0, .aload_n 0, 1, 0, 0), (1, .getfield 33, 3, 4, 4), (4, .iconst 3, 1, 0, 0), (5, .if_icmp .ne 15, 3, 0, 0), (8, .aload_n 0, 1, 0, 0), (9, .getfield 138, 3, 4, 9), (12, .iload_n 1, 1, 0, 0), (13, .if_icmp .ne 7, 3, 0, 0), (16, .iconst 1, 1, 0, 0), (17, .goto 4, 3, 0, 0), (20, .iconst 0, 1, 0, 0), (21, .ireturn, 1, 0, 0)]
set_option maxRecDepth 100000 in
theorem kX4_isSign : mTok cX4_isSign RX4 2 false tX4_isSign := mTok_of (by decide +kernel) ⟨trivial, ⟨_, rfl, lfRX4_33⟩, trivial, trivial, trivial, ⟨_, rfl, lfRX4_138⟩, trivial, trivial, trivial, trivial, trivial, trivial, trivial⟩
def tX4_isWord : List mI := [(0, .aload_n 1, 1, 0, 0), (1, .invokevirtual 176, 3, 0, 0), (4, .istore_n 2, 1, 0, 0), (5, .aload_n 0, 1, 0, 0), (6, .getfield 33, 3, 4, 4), (9, .iconst 1, 1, 0, 0), (10, .if_icmp .ne 16, 3, 0, 0), (13, .aload_n 0, 1, 0, 0), (14, .getfield 27, 3, 4, 6), (17, .aload_n 0, 1, 0, 0), (18, .getfield 180, 3, 4, 5), (21, .isub, 1, 0, 0), (22, .iload_n 2, 1, 0, 0), (23, .if_icmp .eq 5, 3, 0, 0), (26, .iconst 0, 1, 0, 0), (27, .ireturn, 1, 0, 0), (28, .iconst 0, 1, 0, 0), (29, .istore_n 3, 1, 0, 0), (30, .iload_n 3, 1, 0, 0), (31, .iload_n 2, 1, 0, 0), (32, .if_icmp .ge 30, 3, 0, 0), (35, .aload_n 0, 1, 0, 0), (36, .getfield 9, 3, 4, 0), (39, .aload_n 0, 1, 0, 0), (40, .getfield 180, 3, 4, 5), (43, .iload_n 3, 1, 0, 0), (44, .iadd, 1, 0, 0), (45, .baload, 1, 0, 0), (46, .aload_n 1, 1, 0, 0), (47, .iload_n 3, 1, 0, 0), (48, .invokevirtual 183, 3, 0, 0), (51, .if_icmp .eq 5, 3, 0, 0), (54, .iconst 0, 1, 0, 0), (55, .ireturn, 1, 0, 0), (56, .iinc 3 1, 3, 0, 0), (59, .goto (-29), 3, 0, 0), (62, .iconst 1, 1, 0, 0), (63, .ireturn, 1, 0, 0)]
set_option maxRecDepth 100000 in
theorem kX4_isWord : mTok cX4_isWord RX4 4 false tX4_isWord := mTok_of (by decide +kernel) ⟨trivial, trivial, trivial, trivial, ⟨_, rfl, lfRX4_33⟩, trivial, trivial, trivial, ⟨_, rfl, lfRX4_27⟩, trivial, ⟨_, rfl, lfRX4_180⟩, trivial, trivial, trivial, trivial, trivial, trivial, trivial, trivial, trivial, trivial, trivial, ⟨_, rfl, lfRX4_9⟩, trivial, ⟨_, rfl, lfRX4_180⟩, trivial, trivial, trivial, trivial, trivial, trivial, trivial, trivial, trivial, trivial, trivial, trivial, trivial, trivial⟩
def tX4_refuse : List mI := [(0, .aload_n 0, 1, 0, 0), (1, .getfield 24, 3, 4, 2), (4, .ifCond .ne 16, 3, 0, 0), (7, .aload_n 0, 1, 0, 0), (8, .iload_n 1, 1, 0, 0), (9, .putfield 24, 3, 4, 2), (12, .aload_n 0, 1, 0, 0), (13, .aload_n 0, 1, 0, 0), (14, .getfield 180, 3, 4, 5), (17, .putfield 187, 3, 4, 3), (20, .aload_n 0, 1, 0, 0), (21, .iconst 0, 1, 0, 0), (22, .putfield 33, 3, 4, 4), (25, .return_, 1, 0, 0)]
set_option maxRecDepth 100000 in
theorem kX4_refuse : mTok cX4_refuse RX4 2 false tX4_refuse := mTok_of (by decide +kernel) ⟨trivial, ⟨_, rfl, lfRX4_24⟩, trivial, trivial, trivial, ⟨_, rfl, lfRX4_24, (fun z => by cases z)⟩, trivial, trivial, ⟨_, rfl, lfRX4_180⟩, ⟨_, rfl, lfRX4_187, (fun z => by cases z)⟩, trivial, trivial, ⟨_, rfl, lfRX4_33, (fun z => by cases z)⟩, trivial, trivial⟩
def tX4_advance : List mI := [(0, .aload_n 0, 1, 0, 0), (1, .getfield 24, 3, 4, 2), (4, .ifCond .eq 4, 3, 0, 0), (7, .return_, 1, 0, 0), (8, .aload_n 0, 1, 0, 0), (9, .getfield 27, 3, 4, 6), (12, .aload_n 0, 1, 0, 0), (13, .getfield 15, 3, 4, 1), (16, .if_icmp .ge 44, 3, 0, 0), (19, .aload_n 0, 1, 0, 0), (20, .getfield 9, 3, 4, 0), (23, .aload_n 0, 1, 0, 0), (24, .getfield 27, 3, 4, 6), (27, .baload, 1, 0, 0), (28, .bipush 32, 2, 0, 0), (30, .if_icmp .eq 17, 3, 0, 0), (33, .aload_n 0, 1, 0, 0), (34, .getfield 9, 3, 4, 0), (37, .aload_n 0, 1, 0, 0), (38, .getfield 27, 3, 4, 6), (41, .baload, 1, 0, 0), (42, .bipush 10, 2, 0, 0), (44, .if_icmp .ne 16, 3, 0, 0), (47, .aload_n 0, 1, 0, 0), (48, .dup, 1, 0, 0), (49, .getfield 27, 3, 4, 6), (52, .iconst 1, 1, 0, 0), (53, .iadd, 1, 0, 0), (54, .putfield 27, 3, 4, 6), (57, .goto (-49), 3, 0, 0), (60, .aload_n 0, 1, 0, 0), (61, .aload_n 0, 1, 0, 0), (62, .getfield 27, 3, 4, 6), (65, .putfield 180, 3, 4, 5), (68, .aload_n 0, 1, 0, 0), (69, .getfield 27, 3, 4, 6), (72, .aload_n 0, 1, 0, 0), (73, .getfield 15, 3, 4, 1), (76, .if_icmp .lt 11, 3, 0, 0), (79, .aload_n 0, 1, 0, 0), (80, .iconst 0, 1, 0, 0), (81, .putfield 33, 3, 4, 4), (84, .goto 43, 3, 0, 0), (87, .aload_n 0, 1, 0, 0), (88, .aload_n 0, 1, 0, 0), (89, .getfield 27, 3, 4, 6), (92, .invokevirtual 190, 3, 0, 0), (95, .ifCond .eq 10, 3, 0, 0), (98, .aload_n 0, 1, 0, 0), (99, .invokevirtual 194, 3, 0, 0), (102, .goto 25, 3, 0, 0), (105, .aload_n 0, 1, 0, 0), (106, .aload_n 0, 1, 0, 0), (107, .getfield 27, 3, 4, 6), (110, .invokevirtual 197, 3, 0, 0), (113, .ifCond .eq 10, 3, 0, 0), (116, .aload_n 0, 1, 0, 0), (117, .invokevirtual 200, 3, 0, 0), (120, .goto 7, 3, 0, 0), (123, .aload_n 0, 1, 0, 0), (124, .invokevirtual 203, 3, 0, 0), (127, .return_, 1, 0, 0)]
set_option maxRecDepth 100000 in
theorem kX4_advance : mTok cX4_advance RX4 1 false tX4_advance := mTok_of (by decide +kernel) ⟨trivial, ⟨_, rfl, lfRX4_24⟩, trivial, trivial, trivial, ⟨_, rfl, lfRX4_27⟩, trivial, ⟨_, rfl, lfRX4_15⟩, trivial, trivial, ⟨_, rfl, lfRX4_9⟩, trivial, ⟨_, rfl, lfRX4_27⟩, trivial, trivial, trivial, trivial, ⟨_, rfl, lfRX4_9⟩, trivial, ⟨_, rfl, lfRX4_27⟩, trivial, trivial, trivial, trivial, trivial, ⟨_, rfl, lfRX4_27⟩, trivial, trivial, ⟨_, rfl, lfRX4_27, (fun z => by cases z)⟩, trivial, trivial, trivial, ⟨_, rfl, lfRX4_27⟩, ⟨_, rfl, lfRX4_180, (fun z => by cases z)⟩, trivial, ⟨_, rfl, lfRX4_27⟩, trivial, ⟨_, rfl, lfRX4_15⟩, trivial, trivial, trivial, ⟨_, rfl, lfRX4_33, (fun z => by cases z)⟩, trivial, trivial, trivial, ⟨_, rfl, lfRX4_27⟩, trivial, trivial, trivial, trivial, trivial, trivial, trivial, ⟨_, rfl, lfRX4_27⟩, trivial, trivial, trivial, trivial, trivial, trivial, trivial, trivial, trivial⟩
def tX4_scanWord : List mI := [(0, .aload_n 0, 1, 0, 0), (1, .iconst 1, 1, 0, 0), (2, .putfield 33, 3, 4, 4), (5, .aload_n 0, 1, 0, 0), (6, .lconst 0, 1, 0, 0), (7, .putfield 164, 3, 4, 8), (10, .aload_n 0, 1, 0, 0), (11, .getfield 27, 3, 4, 6), (14, .aload_n 0, 1, 0, 0), (15, .getfield 15, 3, 4, 1), (18, .if_icmp .ge 55, 3, 0, 0), (21, .aload_n 0, 1, 0, 0), (22, .aload_n 0, 1, 0, 0), (23, .getfield 27, 3, 4, 6), (26, .invokevirtual 190, 3, 0, 0), (29, .ifCond .eq 44, 3, 0, 0), (32, .aload_n 0, 1, 0, 0), (33, .aload_n 0, 1, 0, 0), (34, .getfield 164, 3, 4, 8), (37, .ldc2_w 206, 3, 32, 0), (40, .lmul, 1, 0, 0), (41, .aload_n 0, 1, 0, 0), (42, .getfield 9, 3, 4, 0), (45, .aload_n 0, 1, 0, 0), (46, .getfield 27, 3, 4, 6), (49, .baload, 1, 0, 0), (50, .bipush 97, 2, 0, 0), (52, .isub, 1, 0, 0), (53, .iconst 1, 1, 0, 0), (54, .iadd, 1, 0, 0), (55, .i2l, 1, 0, 0), (56, .ladd, 1, 0, 0), (57, .putfield 164, 3, 4, 8), (60, .aload_n 0, 1, 0, 0), (61, .dup, 1, 0, 0), (62, .getfield 27, 3, 4, 6), (65, .iconst 1, 1, 0, 0), (66, .iadd, 1, 0, 0), (67, .putfield 27, 3, 4, 6), (70, .goto (-60), 3, 0, 0), (73, .aload_n 0, 1, 0, 0), (74, .getfield 27, 3, 4, 6), (77, .aload_n 0, 1, 0, 0), (78, .getfield 180, 3, 4, 5), (81, .isub, 1, 0, 0), (82, .bipush 8, 2, 0, 0), (84, .if_icmp .le 8, 3, 0, 0), (87, .aload_n 0, 1, 0, 0), (88, .iconst 1, 1, 0, 0), (89, .invokevirtual 71, 3, 0, 0), (92, .return_, 1, 0, 0)]
set_option maxRecDepth 100000 in
theorem kX4_scanWord : mTok cX4_scanWord RX4 1 false tX4_scanWord := mTok_of (by decide +kernel) ⟨trivial, trivial, ⟨_, rfl, lfRX4_33, (fun z => by cases z)⟩, trivial, trivial, ⟨_, rfl, lfRX4_164, (fun z => by cases z)⟩, trivial, ⟨_, rfl, lfRX4_27⟩, trivial, ⟨_, rfl, lfRX4_15⟩, trivial, trivial, trivial, ⟨_, rfl, lfRX4_27⟩, trivial, trivial, trivial, trivial, ⟨_, rfl, lfRX4_164⟩, lcRX4_206, trivial, trivial, ⟨_, rfl, lfRX4_9⟩, trivial, ⟨_, rfl, lfRX4_27⟩, trivial, trivial, trivial, trivial, trivial, trivial, trivial, ⟨_, rfl, lfRX4_164, (fun z => by cases z)⟩, trivial, trivial, ⟨_, rfl, lfRX4_27⟩, trivial, trivial, ⟨_, rfl, lfRX4_27, (fun z => by cases z)⟩, trivial, trivial, ⟨_, rfl, lfRX4_27⟩, trivial, ⟨_, rfl, lfRX4_180⟩, trivial, trivial, trivial, trivial, trivial, trivial, trivial, trivial⟩
def tX4_scanNumber : List mI := [(0, .aload_n 0, 1, 0, 0), (1, .iconst 2, 1, 0, 0), (2, .putfield 33, 3, 4, 4), (5, .aload_n 0, 1, 0, 0), (6, .iconst 0, 1, 0, 0), (7, .putfield 155, 3, 4, 7), (10, .aload_n 0, 1, 0, 0), (11, .getfield 27, 3, 4, 6), (14, .aload_n 0, 1, 0, 0), (15, .getfield 15, 3, 4, 1), (18, .if_icmp .ge 51, 3, 0, 0), (21, .aload_n 0, 1, 0, 0), (22, .aload_n 0, 1, 0, 0), (23, .getfield 27, 3, 4, 6), (26, .invokevirtual 197, 3, 0, 0), (29, .ifCond .eq 40, 3, 0, 0), (32, .aload_n 0, 1, 0, 0), (33, .aload_n 0, 1, 0, 0), (34, .getfield 155, 3, 4, 7), (37, .bipush 10, 2, 0, 0), (39, .imul, 1, 0, 0), (40, .aload_n 0, 1, 0, 0), (41, .getfield 9, 3, 4, 0), (44, .aload_n 0, 1, 0, 0), (45, .getfield 27, 3, 4, 6), (48, .baload, 1, 0, 0), (49, .bipush 48, 2, 0, 0), (51, .isub, 1, 0, 0), (52, .iadd, 1, 0, 0), (53, .putfield 155, 3, 4, 7), (56, .aload_n 0, 1, 0, 0), (57, .dup, 1, 0, 0), (58, .getfield 27, 3, 4, 6), (61, .iconst 1, 1, 0, 0), (62, .iadd, 1, 0, 0), (63, .putfield 27, 3, 4, 6), (66, .goto (-56), 3, 0, 0), (69, .aload_n 0, 1, 0, 0), (70, .getfield 27, 3, 4, 6), (73, .aload_n 0, 1, 0, 0), (74, .getfield 180, 3, 4, 5), (77, .isub, 1, 0, 0), (78, .iconst 4, 1, 0, 0), (79, .if_icmp .gt 14, 3, 0, 0), (82, .aload_n 0, 1, 0, 0), (83, .aload_n 0, 1, 0, 0), (84, .getfield 27, 3, 4, 6), (87, .invokevirtual 190, 3, 0, 0), (90, .ifCond .eq 8, 3, 0, 0), (93, .aload_n 0, 1, 0, 0), (94, .iconst 1, 1, 0, 0), (95, .invokevirtual 71, 3, 0, 0), (98, .return_, 1, 0, 0)]
set_option maxRecDepth 100000 in
theorem kX4_scanNumber : mTok cX4_scanNumber RX4 1 false tX4_scanNumber := mTok_of (by decide +kernel) ⟨trivial, trivial, ⟨_, rfl, lfRX4_33, (fun z => by cases z)⟩, trivial, trivial, ⟨_, rfl, lfRX4_155, (fun z => by cases z)⟩, trivial, ⟨_, rfl, lfRX4_27⟩, trivial, ⟨_, rfl, lfRX4_15⟩, trivial, trivial, trivial, ⟨_, rfl, lfRX4_27⟩, trivial, trivial, trivial, trivial, ⟨_, rfl, lfRX4_155⟩, trivial, trivial, trivial, ⟨_, rfl, lfRX4_9⟩, trivial, ⟨_, rfl, lfRX4_27⟩, trivial, trivial, trivial, trivial, ⟨_, rfl, lfRX4_155, (fun z => by cases z)⟩, trivial, trivial, ⟨_, rfl, lfRX4_27⟩, trivial, trivial, ⟨_, rfl, lfRX4_27, (fun z => by cases z)⟩, trivial, trivial, ⟨_, rfl, lfRX4_27⟩, trivial, ⟨_, rfl, lfRX4_180⟩, trivial, trivial, trivial, trivial, trivial, ⟨_, rfl, lfRX4_27⟩, trivial, trivial, trivial, trivial, trivial, trivial, trivial⟩
def tX4_scanSign : List mI := [(0, .aload_n 0, 1, 0, 0), (1, .iconst 3, 1, 0, 0), (2, .putfield 33, 3, 4, 4), (5, .aload_n 0, 1, 0, 0), (6, .aload_n 0, 1, 0, 0), (7, .getfield 9, 3, 4, 0), (10, .aload_n 0, 1, 0, 0), (11, .getfield 27, 3, 4, 6), (14, .baload, 1, 0, 0), (15, .sipush 255, 3, 0, 0), (18, .iand, 1, 0, 0), (19, .i2c, 1, 0, 0), (20, .putfield 138, 3, 4, 9), (23, .aload_n 0, 1, 0, 0), (24, .dup, 1, 0, 0), (25, .getfield 27, 3, 4, 6), (28, .iconst 1, 1, 0, 0), (29, .iadd, 1, 0, 0), (30, .putfield 27, 3, 4, 6), (33, .aload_n 0, 1, 0, 0), (34, .getfield 138, 3, 4, 9), (37, .tableswitch 122 37 62 #[119, 122, 122, 119, 119, 119, 119, 122, 119, 122, 119, 122, 122, 122, 122, 122, 122, 122, 122, 122, 122, 122, 119, 119, 119, 119], 119, 0, 0), (156, .goto 8, 3, 0, 0), (159, .aload_n 0, 1, 0, 0), (160, .iconst 1, 1, 0, 0), (161, .invokevirtual 71, 3, 0, 0), (164, .return_, 1, 0, 0)]
set_option maxRecDepth 100000 in
theorem kX4_scanSign : mTok cX4_scanSign RX4 1 false tX4_scanSign := mTok_of (by decide +kernel) ⟨trivial, trivial, ⟨_, rfl, lfRX4_33, (fun z => by cases z)⟩, trivial, trivial, ⟨_, rfl, lfRX4_9⟩, trivial, ⟨_, rfl, lfRX4_27⟩, trivial, trivial, trivial, trivial, ⟨_, rfl, lfRX4_138, (fun z => by cases z)⟩, trivial, trivial, ⟨_, rfl, lfRX4_27⟩, trivial, trivial, ⟨_, rfl, lfRX4_27, (fun z => by cases z)⟩, trivial, ⟨_, rfl, lfRX4_138⟩, trivial, trivial, trivial, trivial, trivial, trivial, trivial⟩
def tX4_isLetterAt : List mI := [(0, .iload_n 1, 1, 0, 0), (1, .aload_n 0, 1, 0, 0), (2, .getfield 15, 3, 4, 1), (5, .if_icmp .ge 29, 3, 0, 0), (8, .aload_n 0, 1, 0, 0), (9, .getfield 9, 3, 4, 0), (12, .iload_n 1, 1, 0, 0), (13, .baload, 1, 0, 0), (14, .bipush 97, 2, 0, 0), (16, .if_icmp .lt 18, 3, 0, 0), (19, .aload_n 0, 1, 0, 0), (20, .getfield 9, 3, 4, 0), (23, .iload_n 1, 1, 0, 0), (24, .baload, 1, 0, 0), (25, .bipush 122, 2, 0, 0), (27, .if_icmp .gt 7, 3, 0, 0), (30, .iconst 1, 1, 0, 0), (31, .goto 4, 3, 0, 0), (34, .iconst 0, 1, 0, 0), (35, .ireturn, 1, 0, 0)]
set_option maxRecDepth 100000 in
theorem kX4_isLetterAt : mTok cX4_isLetterAt RX4 2 false tX4_isLetterAt := mTok_of (by decide +kernel) ⟨trivial, trivial, ⟨_, rfl, lfRX4_15⟩, trivial, trivial, ⟨_, rfl, lfRX4_9⟩, trivial, trivial, trivial, trivial, trivial, ⟨_, rfl, lfRX4_9⟩, trivial, trivial, trivial, trivial, trivial, trivial, trivial, trivial, trivial⟩
def tX4_isDigitAt : List mI := [(0, .iload_n 1, 1, 0, 0), (1, .aload_n 0, 1, 0, 0), (2, .getfield 15, 3, 4, 1), (5, .if_icmp .ge 29, 3, 0, 0), (8, .aload_n 0, 1, 0, 0), (9, .getfield 9, 3, 4, 0), (12, .iload_n 1, 1, 0, 0), (13, .baload, 1, 0, 0), (14, .bipush 48, 2, 0, 0), (16, .if_icmp .lt 18, 3, 0, 0), (19, .aload_n 0, 1, 0, 0), (20, .getfield 9, 3, 4, 0), (23, .iload_n 1, 1, 0, 0), (24, .baload, 1, 0, 0), (25, .bipush 57, 2, 0, 0), (27, .if_icmp .gt 7, 3, 0, 0), (30, .iconst 1, 1, 0, 0), (31, .goto 4, 3, 0, 0), (34, .iconst 0, 1, 0, 0), (35, .ireturn, 1, 0, 0)]
set_option maxRecDepth 100000 in
theorem kX4_isDigitAt : mTok cX4_isDigitAt RX4 2 false tX4_isDigitAt := mTok_of (by decide +kernel) ⟨trivial, trivial, ⟨_, rfl, lfRX4_15⟩, trivial, trivial, ⟨_, rfl, lfRX4_9⟩, trivial, trivial, trivial, trivial, trivial, ⟨_, rfl, lfRX4_9⟩, trivial, trivial, trivial, trivial, trivial, trivial, trivial, trivial, trivial⟩
def tX5_init : List mI := [(0, .aload_n 0, 1, 0, 0), (1, .invokespecial 3, 3, 0, 8888), (4, .aload_n 0, 1, 0, 0), (5, .bipush 30, 2, 0, 0), (7, .newarray .int, 2, 0, 0), (9, .putfield 9, 3, 5, 0), (12, .aload_n 0, 1, 0, 0), (13, .bipush 30, 2, 0, 0), (15, .newarray .int, 2, 0, 0), (17, .putfield 15, 3, 5, 1), (20, .aload_n 0, 1, 0, 0), (21, .bipush 30, 2, 0, 0), (23, .newarray .int, 2, 0, 0), (25, .putfield 18, 3, 5, 2), (28, .aload_n 0, 1, 0, 0), (29, .bipush 30, 2, 0, 0), (31, .newarray .int, 2, 0, 0), (33, .putfield 21, 3, 5, 3), (36, .aload_n 0, 1, 0, 0), (37, .bipush 30, 2, 0, 0), (39, .newarray .int, 2, 0, 0), (41, .putfield 24, 3, 5, 4), (44, .return_, 1, 0, 0)]
set_option maxRecDepth 100000 in
theorem kX5_init : mTok cX5_init RX5 1 true tX5_init := mTok_of (by decide +kernel) ⟨trivial, (fun _ => lmRX5_3), trivial, trivial, ⟨la_int, by decide⟩, ⟨_, rfl, lfRX5_9, fun _ => rfl⟩, trivial, trivial, ⟨la_int, by decide⟩, ⟨_, rfl, lfRX5_15, fun _ => rfl⟩, trivial, trivial, ⟨la_int, by decide⟩, ⟨_, rfl, lfRX5_18, fun _ => rfl⟩, trivial, trivial, ⟨la_int, by decide⟩, ⟨_, rfl, lfRX5_21, fun _ => rfl⟩, trivial, trivial, ⟨la_int, by decide⟩, ⟨_, rfl, lfRX5_24, fun _ => rfl⟩, trivial, trivial⟩
def tX5_add : List mI := [(0, .aload_n 0, 1, 0, 0), (1, .getfield 27, 3, 5, 5), (4, .bipush 30, 2, 0, 0), (6, .if_icmp .lt 5, 3, 0, 0), (9, .iconst (-1), 1, 0, 0), (10, .ireturn, 1, 0, 0), (11, .aload_n 0, 1, 0, 0), (12, .getfield 9, 3, 5, 0), (15, .aload_n 0, 1, 0, 0), (16, .getfield 27, 3, 5, 5), (19, .iload_n 1, 1, 0, 0), (20, .iastore, 1, 0, 0), (21, .aload_n 0, 1, 0, 0), (22, .getfield 15, 3, 5, 1), (25, .aload_n 0, 1, 0, 0), (26, .getfield 27, 3, 5, 5), (29, .iload_n 2, 1, 0, 0), (30, .iastore, 1, 0, 0), (31, .aload_n 0, 1, 0, 0), (32, .getfield 18, 3, 5, 2), (35, .aload_n 0, 1, 0, 0), (36, .getfield 27, 3, 5, 5), (39, .iload_n 3, 1, 0, 0), (40, .iastore, 1, 0, 0), (41, .aload_n 0, 1, 0, 0), (42, .getfield 21, 3, 5, 3), (45, .aload_n 0, 1, 0, 0), (46, .getfield 27, 3, 5, 5), (49, .iload 4, 2, 0, 0), (51, .iastore, 1, 0, 0), (52, .aload_n 0, 1, 0, 0), (53, .getfield 24, 3, 5, 4), (56, .aload_n 0, 1, 0, 0), (57, .getfield 27, 3, 5, 5), (60, .iconst (-1), 1, 0, 0), (61, .iastore, 1, 0, 0), (62, .aload_n 0, 1, 0, 0), (63, .dup, 1, 0, 0), (64, .getfield 27, 3, 5, 5), (67, .iconst 1, 1, 0, 0), (68, .iadd, 1, 0, 0), (69, .putfield 27, 3, 5, 5), (72, .aload_n 0, 1, 0, 0), (73, .getfield 27, 3, 5, 5), (76, .iconst 1, 1, 0, 0), (77, .isub, 1, 0, 0), (78, .ireturn, 1, 0, 0)]
set_option maxRecDepth 100000 in
theorem kX5_add : mTok cX5_add RX5 5 false tX5_add := mTok_of (by decide +kernel) ⟨trivial, ⟨_, rfl, lfRX5_27⟩, trivial, trivial, trivial, trivial, trivial, ⟨_, rfl, lfRX5_9⟩, trivial, ⟨_, rfl, lfRX5_27⟩, trivial, trivial, trivial, ⟨_, rfl, lfRX5_15⟩, trivial, ⟨_, rfl, lfRX5_27⟩, trivial, trivial, trivial, ⟨_, rfl, lfRX5_18⟩, trivial, ⟨_, rfl, lfRX5_27⟩, trivial, trivial, trivial, ⟨_, rfl, lfRX5_21⟩, trivial, ⟨_, rfl, lfRX5_27⟩, trivial, trivial, trivial, ⟨_, rfl, lfRX5_24⟩, trivial, ⟨_, rfl, lfRX5_27⟩, trivial, trivial, trivial, trivial, ⟨_, rfl, lfRX5_27⟩, trivial, trivial, ⟨_, rfl, lfRX5_27, (fun z => by cases z)⟩, trivial, ⟨_, rfl, lfRX5_27⟩, trivial, trivial, trivial, trivial⟩
def tX5_takeBack : List mI := [(0, .iload_n 1, 1, 0, 0), (1, .ifCond .lt 21, 3, 0, 0), (4, .iload_n 1, 1, 0, 0), (5, .aload_n 0, 1, 0, 0), (6, .getfield 27, 3, 5, 5), (9, .if_icmp .ge 13, 3, 0, 0), (12, .aload_n 0, 1, 0, 0), (13, .getfield 24, 3, 5, 4), (16, .iload_n 1, 1, 0, 0), (17, .iaload, 1, 0, 0), (18, .iconst (-1), 1, 0, 0), (19, .if_icmp .eq 5, 3, 0, 0), (22, .iconst 0, 1, 0, 0), (23, .ireturn, 1, 0, 0), (24, .aload_n 0, 1, 0, 0), (25, .getfield 24, 3, 5, 4), (28, .iload_n 1, 1, 0, 0), (29, .iload_n 2, 1, 0, 0), (30, .iastore, 1, 0, 0), (31, .iconst 1, 1, 0, 0), (32, .ireturn, 1, 0, 0)]
set_option maxRecDepth 100000 in
theorem kX5_takeBack : mTok cX5_takeBack RX5 3 false tX5_takeBack := mTok_of (by decide +kernel) ⟨trivial, trivial, trivial, trivial, ⟨_, rfl, lfRX5_27⟩, trivial, trivial, ⟨_, rfl, lfRX5_24⟩, trivial, trivial, trivial, trivial, trivial, trivial, trivial, ⟨_, rfl, lfRX5_24⟩, trivial, trivial, trivial, trivial, trivial, trivial⟩
def tX5_countingAt : List mI := [(0, .iconst 0, 1, 0, 0), (1, .istore_n 2, 1, 0, 0), (2, .iconst 0, 1, 0, 0), (3, .istore_n 3, 1, 0, 0), (4, .iload_n 3, 1, 0, 0), (5, .aload_n 0, 1, 0, 0), (6, .getfield 27, 3, 5, 5), (9, .if_icmp .ge 57, 3, 0, 0), (12, .aload_n 0, 1, 0, 0), (13, .getfield 24, 3, 5, 4), (16, .iload_n 3, 1, 0, 0), (17, .iaload, 1, 0, 0), (18, .iconst (-1), 1, 0, 0), (19, .if_icmp .eq 17, 3, 0, 0), (22, .aload_n 0, 1, 0, 0), (23, .getfield 24, 3, 5, 4), (26, .iload_n 3, 1, 0, 0), (27, .iaload, 1, 0, 0), (28, .iload_n 1, 1, 0, 0), (29, .if_icmp .gt 7, 3, 0, 0), (32, .iconst 1, 1, 0, 0), (33, .goto 4, 3, 0, 0), (36, .iconst 0, 1, 0, 0), (37, .istore 4, 2, 0, 0), (39, .aload_n 0, 1, 0, 0), (40, .getfield 21, 3, 5, 3), (43, .iload_n 3, 1, 0, 0), (44, .iaload, 1, 0, 0), (45, .iload_n 1, 1, 0, 0), (46, .if_icmp .gt 14, 3, 0, 0), (49, .iload 4, 2, 0, 0), (51, .ifCond .ne 9, 3, 0, 0), (54, .iload_n 2, 1, 0, 0), (55, .iconst 1, 1, 0, 0), (56, .iload_n 3, 1, 0, 0), (57, .ishl, 1, 0, 0), (58, .ior, 1, 0, 0), (59, .istore_n 2, 1, 0, 0), (60, .iinc 3 1, 3, 0, 0), (63, .goto (-59), 3, 0, 0), (66, .iload_n 2, 1, 0, 0), (67, .ireturn, 1, 0, 0)]
set_option maxRecDepth 100000 in
theorem kX5_countingAt : mTok cX5_countingAt RX5 5 false tX5_countingAt := mTok_of (by decide +kernel) ⟨trivial, trivial, trivial, trivial, trivial, trivial, ⟨_, rfl, lfRX5_27⟩, trivial, trivial, ⟨_, rfl, lfRX5_24⟩, trivial, trivial, trivial, trivial, trivial, ⟨_, rfl, lfRX5_24⟩, trivial, trivial, trivial, trivial, trivial, trivial, trivial, trivial, trivial, ⟨_, rfl, lfRX5_21⟩, trivial, trivial, trivial, trivial, trivial, trivial, trivial, trivial, trivial, trivial, trivial, trivial, trivial, trivial, trivial, trivial, trivial⟩
end
section
def tX6_init : List mI := [(0, .aload_n 0, 1, 0, 0), (1, .invokespecial 3, 3, 0, 8888), (4, .aload_n 0, 1, 0, 0), (5, .iconst 5, 1, 0, 0), (6, .newarray .int, 2, 0, 0), (8, .putfield 9, 3, 6, 0), (11, .aload_n 0, 1, 0, 0), (12, .iconst 5, 1, 0, 0), (13, .newarray .int, 2, 0, 0), (15, .putfield 15, 3, 6, 1), (18, .aload_n 0, 1, 0, 0), (19, .iconst 5, 1, 0, 0), (20, .newarray .int, 2, 0, 0), (22, .putfield 18, 3, 6, 2), (25, .aload_n 0, 1, 0, 0), (26, .iconst 5, 1, 0, 0), (27, .newarray .int, 2, 0, 0), (29, .putfield 21, 3, 6, 3), (32, .aload_n 0, 1, 0, 0), (33, .iconst 5, 1, 0, 0), (34, .newarray .int, 2, 0, 0), (36, .putfield 24, 3, 6, 4), (39, .aload_n 0, 1, 0, 0), (40, .iconst 5, 1, 0, 0), (41, .newarray .int, 2, 0, 0), (43, .putfield 27, 3, 6, 5), (46, .aload_n 0, 1, 0, 0), (47, .bipush 32, 2, 0, 0), (49, .newarray .int, 2, 0, 0), (51, .putfield 30, 3, 6, 6), (54, .aload_n 0, 1, 0, 0), (55, .bipush 8, 2, 0, 0), (57, .newarray .int, 2, 0, 0), (59, .putfield 33, 3, 6, 7), (62, .return_, 1, 0, 0)]
set_option maxRecDepth 100000 in
theorem kX6_init : mTok cX6_init RX6 1 true tX6_init := mTok_of (by decide +kernel) ⟨trivial, (fun _ => lmRX6_3), trivial, trivial, ⟨la_int, by decide⟩, ⟨_, rfl, lfRX6_9, fun _ => rfl⟩, trivial, trivial, ⟨la_int, by decide⟩, ⟨_, rfl, lfRX6_15, fun _ => rfl⟩, trivial, trivial, ⟨la_int, by decide⟩, ⟨_, rfl, lfRX6_18, fun _ => rfl⟩, trivial, trivial, ⟨la_int, by decide⟩, ⟨_, rfl, lfRX6_21, fun _ => rfl⟩, trivial, trivial, ⟨la_int, by decide⟩, ⟨_, rfl, lfRX6_24, fun _ => rfl⟩, trivial, trivial, ⟨la_int, by decide⟩, ⟨_, rfl, lfRX6_27, fun _ => rfl⟩, trivial, trivial, ⟨la_int, by decide⟩, ⟨_, rfl, lfRX6_30, fun _ => rfl⟩, trivial, trivial, ⟨la_int, by decide⟩, ⟨_, rfl, lfRX6_33, fun _ => rfl⟩, trivial, trivial⟩
def tX6_look : List mI := [(0, .aload_n 0, 1, 0, 0), (1, .aload_n 1, 1, 0, 0), (2, .getfield 36, 3, 8, 9), (5, .putfield 42, 3, 6, 8), (8, .aload_n 1, 1, 0, 0), (9, .getfield 43, 3, 8, 1), (12, .iconst 0, 1, 0, 0), (13, .aload_n 0, 1, 0, 0), (14, .getfield 9, 3, 6, 0), (17, .iconst 0, 1, 0, 0), (18, .aload_n 0, 1, 0, 0), (19, .getfield 42, 3, 6, 8), (22, .invokestatic 44, 3, 0, 7777), (25, .aload_n 2, 1, 0, 0), (26, .bipush 10, 2, 0, 0), (28, .aload_n 0, 1, 0, 0), (29, .getfield 15, 3, 6, 1), (32, .iconst 0, 1, 0, 0), (33, .aload_n 0, 1, 0, 0), (34, .getfield 42, 3, 6, 8), (37, .invokestatic 44, 3, 0, 7777), (40, .aload_n 0, 1, 0, 0), (41, .getfield 21, 3, 6, 3), (44, .iconst 0, 1, 0, 0), (45, .invokestatic 50, 3, 0, 0), (48, .aload_n 0, 1, 0, 0), (49, .getfield 24, 3, 6, 4), (52, .iconst 0, 1, 0, 0), (53, .invokestatic 50, 3, 0, 0), (56, .return_, 1, 0, 0)]
set_option maxRecDepth 100000 in
theorem kX6_look : mTok cX6_look RX6 3 false tX6_look := mTok_of (by decide +kernel) ⟨trivial, trivial, ⟨_, rfl, lfRX6_36⟩, ⟨_, rfl, lfRX6_42, (fun z => by cases z)⟩, trivial, ⟨_, rfl, lfRX6_43⟩, trivial, trivial, ⟨_, rfl, lfRX6_9⟩, trivial, trivial, ⟨_, rfl, lfRX6_42⟩, (fun _ => lmRX6_44), trivial, trivial, trivial, ⟨_, rfl, lfRX6_15⟩, trivial, trivial, ⟨_, rfl, lfRX6_42⟩, (fun _ => lmRX6_44), trivial, ⟨_, rfl, lfRX6_21⟩, trivial, (fun z => by cases z), trivial, ⟨_, rfl, lfRX6_24⟩, trivial, (fun z => by cases z), trivial, trivial⟩
def tX6_fewestBy : List mI := [(0, .aload_n 0, 1, 0, 0), (1, .getfield 42, 3, 6, 8), (4, .ifCond .ne 5, 3, 0, 0), (7, .iconst 0, 1, 0, 0), (8, .ireturn, 1, 0, 0), (9, .iconst 1, 1, 0, 0), (10, .istore_n 2, 1, 0, 0), (11, .iload_n 2, 1, 0, 0), (12, .aload_n 0, 1, 0, 0), (13, .getfield 42, 3, 6, 8), (16, .if_icmp .gt 22, 3, 0, 0), (19, .aload_n 0, 1, 0, 0), (20, .iconst 0, 1, 0, 0), (21, .iconst 0, 1, 0, 0), (22, .iload_n 2, 1, 0, 0), (23, .iload_n 1, 1, 0, 0), (24, .invokevirtual 56, 3, 0, 0), (27, .ifCond .eq 5, 3, 0, 0), (30, .iload_n 2, 1, 0, 0), (31, .ireturn, 1, 0, 0), (32, .iinc 2 1, 3, 0, 0), (35, .goto (-24), 3, 0, 0), (38, .iconst (-1), 1, 0, 0), (39, .ireturn, 1, 0, 0)]
set_option maxRecDepth 100000 in
theorem kX6_fewestBy : mTok cX6_fewestBy RX6 3 false tX6_fewestBy := mTok_of (by decide +kernel) ⟨trivial, ⟨_, rfl, lfRX6_42⟩, trivial, trivial, trivial, trivial, trivial, trivial, trivial, ⟨_, rfl, lfRX6_42⟩, trivial, trivial, trivial, trivial, trivial, trivial, trivial, trivial, trivial, trivial, trivial, trivial, trivial, trivial, trivial⟩
def tX6_firstNoon : List mI := [(0, .aload_n 0, 1, 0, 0), (1, .iconst 0, 1, 0, 0), (2, .iconst 0, 1, 0, 0), (3, .iload_n 1, 1, 0, 0), (4, .iconst 0, 1, 0, 0), (5, .invokevirtual 60, 3, 0, 0), (8, .ireturn, 1, 0, 0)]
set_option maxRecDepth 100000 in
theorem kX6_firstNoon : mTok cX6_firstNoon RX6 2 false tX6_firstNoon := mTok_of (by decide +kernel) ⟨trivial, trivial, trivial, trivial, trivial, trivial, trivial, trivial⟩
def tX6_sendFrom : List mI := [(0, .iload_n 1, 1, 0, 0), (1, .aload_n 0, 1, 0, 0), (2, .getfield 42, 3, 6, 8), (5, .if_icmp .lt 5, 3, 0, 0), (8, .iconst 1, 1, 0, 0), (9, .ireturn, 1, 0, 0), (10, .iconst 0, 1, 0, 0), (11, .istore 5, 2, 0, 0), (13, .iconst 0, 1, 0, 0), (14, .istore 6, 2, 0, 0), (16, .iload 6, 2, 0, 0), (18, .iload_n 2, 1, 0, 0), (19, .if_icmp .gt 78, 3, 0, 0), (22, .iload 6, 2, 0, 0), (24, .iload_n 3, 1, 0, 0), (25, .if_icmp .ge 72, 3, 0, 0), (28, .iload 5, 2, 0, 0), (30, .ifCond .ne 67, 3, 0, 0), (33, .aload_n 0, 1, 0, 0), (34, .getfield 21, 3, 6, 3), (37, .iload 6, 2, 0, 0), (39, .iaload, 1, 0, 0), (40, .istore 7, 2, 0, 0), (42, .aload_n 0, 1, 0, 0), (43, .iload 6, 2, 0, 0), (45, .iload_n 1, 1, 0, 0), (46, .invokevirtual 64, 3, 0, 0), (49, .iload 4, 2, 0, 0), (51, .if_icmp .gt 31, 3, 0, 0), (54, .aload_n 0, 1, 0, 0), (55, .getfield 18, 3, 6, 2), (58, .iload_n 1, 1, 0, 0), (59, .iload 6, 2, 0, 0), (61, .iastore, 1, 0, 0), (62, .aload_n 0, 1, 0, 0), (63, .iload_n 1, 1, 0, 0), (64, .iconst 1, 1, 0, 0), (65, .iadd, 1, 0, 0), (66, .iload_n 2, 1, 0, 0), (67, .iload 6, 2, 0, 0), (69, .iconst 1, 1, 0, 0), (70, .iadd, 1, 0, 0), (71, .invokestatic 68, 3, 0, 0), (74, .iload_n 3, 1, 0, 0), (75, .iload 4, 2, 0, 0), (77, .invokevirtual 56, 3, 0, 0), (80, .istore 5, 2, 0, 0), (82, .aload_n 0, 1, 0, 0), (83, .iload 6, 2, 0, 0), (85, .iload_n 1, 1, 0, 0), (86, .iload 7, 2, 0, 0), (88, .invokevirtual 73, 3, 0, 0), (91, .iinc 6 1, 3, 0, 0), (94, .goto (-78), 3, 0, 0), (97, .iload 5, 2, 0, 0), (99, .ireturn, 1, 0, 0)]
set_option maxRecDepth 100000 in
theorem kX6_sendFrom : mTok cX6_sendFrom RX6 8 false tX6_sendFrom := mTok_of (by decide +kernel) ⟨trivial, trivial, ⟨_, rfl, lfRX6_42⟩, trivial, trivial, trivial, trivial, trivial, trivial, trivial, trivial, trivial, trivial, trivial, trivial, trivial, trivial, trivial, trivial, ⟨_, rfl, lfRX6_21⟩, trivial, trivial, trivial, trivial, trivial, trivial, trivial, trivial, trivial, trivial, ⟨_, rfl, lfRX6_18⟩, trivial, trivial, trivial, trivial, trivial, trivial, trivial, trivial, trivial, trivial, trivial, (fun z => by cases z), trivial, trivial, trivial, trivial, trivial, trivial, trivial, trivial, trivial, trivial, trivial, trivial, trivial, trivial⟩
def tX6_soonestFrom : List mI := [(0, .iload_n 1, 1, 0, 0), (1, .aload_n 0, 1, 0, 0), (2, .getfield 42, 3, 6, 8), (5, .if_icmp .lt 6, 3, 0, 0), (8, .iload 4, 2, 0, 0), (10, .ireturn, 1, 0, 0), (11, .ldc 77, 2, 1000000, 0), (13, .istore 5, 2, 0, 0), (15, .iconst 0, 1, 0, 0), (16, .istore 6, 2, 0, 0), (18, .iload 6, 2, 0, 0), (20, .iload_n 2, 1, 0, 0), (21, .if_icmp .gt 72, 3, 0, 0), (24, .iload 6, 2, 0, 0), (26, .iload_n 3, 1, 0, 0), (27, .if_icmp .ge 66, 3, 0, 0), (30, .aload_n 0, 1, 0, 0), (31, .getfield 21, 3, 6, 3), (34, .iload 6, 2, 0, 0), (36, .iaload, 1, 0, 0), (37, .istore 7, 2, 0, 0), (39, .iload 4, 2, 0, 0), (41, .aload_n 0, 1, 0, 0), (42, .iload 6, 2, 0, 0), (44, .iload_n 1, 1, 0, 0), (45, .invokevirtual 64, 3, 0, 0), (48, .invokestatic 68, 3, 0, 0), (51, .istore 8, 2, 0, 0), (53, .iload 5, 2, 0, 0), (55, .aload_n 0, 1, 0, 0), (56, .iload_n 1, 1, 0, 0), (57, .iconst 1, 1, 0, 0), (58, .iadd, 1, 0, 0), (59, .iload_n 2, 1, 0, 0), (60, .iload 6, 2, 0, 0), (62, .iconst 1, 1, 0, 0), (63, .iadd, 1, 0, 0), (64, .invokestatic 68, 3, 0, 0), (67, .iload_n 3, 1, 0, 0), (68, .iload 8, 2, 0, 0), (70, .invokevirtual 60, 3, 0, 0), (73, .invokestatic 78, 3, 0, 0), (76, .istore 5, 2, 0, 0), (78, .aload_n 0, 1, 0, 0), (79, .iload 6, 2, 0, 0), (81, .iload_n 1, 1, 0, 0), (82, .iload 7, 2, 0, 0), (84, .invokevirtual 73, 3, 0, 0), (87, .iinc 6 1, 3, 0, 0), (90, .goto (-72), 3, 0, 0), (93, .iload 5, 2, 0, 0), (95, .ireturn, 1, 0, 0)]
set_option maxRecDepth 100000 in
theorem kX6_soonestFrom : mTok cX6_soonestFrom RX6 9 false tX6_soonestFrom := mTok_of (by decide +kernel) ⟨trivial, trivial, ⟨_, rfl, lfRX6_42⟩, trivial, trivial, trivial, lcRX6_77, trivial, trivial, trivial, trivial, trivial, trivial, trivial, trivial, trivial, trivial, ⟨_, rfl, lfRX6_21⟩, trivial, trivial, trivial, trivial, trivial, trivial, trivial, trivial, (fun z => by cases z), trivial, trivial, trivial, trivial, trivial, trivial, trivial, trivial, trivial, trivial, (fun z => by cases z), trivial, trivial, trivial, (fun z => by cases z), trivial, trivial, trivial, trivial, trivial, trivial, trivial, trivial, trivial, trivial, trivial⟩
def tX6_busyWith : List mI := [(0, .aload_n 0, 1, 0, 0), (1, .getfield 21, 3, 6, 3), (4, .iload_n 1, 1, 0, 0), (5, .aload_n 0, 1, 0, 0), (6, .getfield 21, 3, 6, 3), (9, .iload_n 1, 1, 0, 0), (10, .iaload, 1, 0, 0), (11, .aload_n 0, 1, 0, 0), (12, .getfield 9, 3, 6, 0), (15, .iload_n 2, 1, 0, 0), (16, .iaload, 1, 0, 0), (17, .invokestatic 68, 3, 0, 0), (20, .iastore, 1, 0, 0), (21, .aload_n 0, 1, 0, 0), (22, .getfield 24, 3, 6, 4), (25, .iload_n 1, 1, 0, 0), (26, .dup2, 1, 0, 0), (27, .iaload, 1, 0, 0), (28, .aload_n 0, 1, 0, 0), (29, .getfield 15, 3, 6, 1), (32, .iload_n 2, 1, 0, 0), (33, .iaload, 1, 0, 0), (34, .iadd, 1, 0, 0), (35, .iastore, 1, 0, 0), (36, .aload_n 0, 1, 0, 0), (37, .getfield 21, 3, 6, 3), (40, .iload_n 1, 1, 0, 0), (41, .iaload, 1, 0, 0), (42, .aload_n 0, 1, 0, 0), (43, .getfield 24, 3, 6, 4), (46, .iload_n 1, 1, 0, 0), (47, .iaload, 1, 0, 0), (48, .iadd, 1, 0, 0), (49, .ireturn, 1, 0, 0)]
set_option maxRecDepth 100000 in
theorem kX6_busyWith : mTok cX6_busyWith RX6 3 false tX6_busyWith := mTok_of (by decide +kernel) ⟨trivial, ⟨_, rfl, lfRX6_21⟩, trivial, trivial, ⟨_, rfl, lfRX6_21⟩, trivial, trivial, trivial, ⟨_, rfl, lfRX6_9⟩, trivial, trivial, (fun z => by cases z), trivial, trivial, ⟨_, rfl, lfRX6_24⟩, trivial, trivial, trivial, trivial, ⟨_, rfl, lfRX6_15⟩, trivial, trivial, trivial, trivial, trivial, ⟨_, rfl, lfRX6_21⟩, trivial, trivial, trivial, ⟨_, rfl, lfRX6_24⟩, trivial, trivial, trivial, trivial, trivial⟩
def tX6_putBack : List mI := [(0, .aload_n 0, 1, 0, 0), (1, .getfield 21, 3, 6, 3), (4, .iload_n 1, 1, 0, 0), (5, .iload_n 3, 1, 0, 0), (6, .iastore, 1, 0, 0), (7, .aload_n 0, 1, 0, 0), (8, .getfield 24, 3, 6, 4), (11, .iload_n 1, 1, 0, 0), (12, .dup2, 1, 0, 0), (13, .iaload, 1, 0, 0), (14, .aload_n 0, 1, 0, 0), (15, .getfield 15, 3, 6, 1), (18, .iload_n 2, 1, 0, 0), (19, .iaload, 1, 0, 0), (20, .isub, 1, 0, 0), (21, .iastore, 1, 0, 0), (22, .return_, 1, 0, 0)]
set_option maxRecDepth 100000 in
theorem kX6_putBack : mTok cX6_putBack RX6 4 false tX6_putBack := mTok_of (by decide +kernel) ⟨trivial, ⟨_, rfl, lfRX6_21⟩, trivial, trivial, trivial, trivial, ⟨_, rfl, lfRX6_24⟩, trivial, trivial, trivial, trivial, ⟨_, rfl, lfRX6_15⟩, trivial, trivial, trivial, trivial, trivial, trivial⟩
def tX6_planKnocks : List mI := [(0, .aload_n 0, 1, 0, 0), (1, .invokevirtual 81, 3, 0, 0), (4, .aload_n 0, 1, 0, 0), (5, .invokevirtual 84, 3, 0, 0), (8, .iconst 1, 1, 0, 0), (9, .aload_n 0, 1, 0, 0), (10, .getfield 42, 3, 6, 8), (13, .ishl, 1, 0, 0), (14, .iconst 1, 1, 0, 0), (15, .isub, 1, 0, 0), (16, .istore_n 1, 1, 0, 0), (17, .iconst 0, 1, 0, 0), (18, .istore_n 2, 1, 0, 0), (19, .iload_n 1, 1, 0, 0), (20, .ifCond .eq 35, 3, 0, 0), (23, .iload_n 2, 1, 0, 0), (24, .bipush 8, 2, 0, 0), (26, .if_icmp .ge 29, 3, 0, 0), (29, .aload_n 0, 1, 0, 0), (30, .iload_n 1, 1, 0, 0), (31, .invokevirtual 87, 3, 0, 0), (34, .istore_n 3, 1, 0, 0), (35, .aload_n 0, 1, 0, 0), (36, .getfield 33, 3, 6, 7), (39, .iload_n 2, 1, 0, 0), (40, .iload_n 3, 1, 0, 0), (41, .iastore, 1, 0, 0), (42, .iinc 2 1, 3, 0, 0), (45, .aload_n 0, 1, 0, 0), (46, .iload_n 1, 1, 0, 0), (47, .iload_n 3, 1, 0, 0), (48, .invokevirtual 91, 3, 0, 0), (51, .istore_n 1, 1, 0, 0), (52, .goto (-33), 3, 0, 0), (55, .iload_n 2, 1, 0, 0), (56, .ireturn, 1, 0, 0)]
set_option maxRecDepth 100000 in
theorem kX6_planKnocks : mTok cX6_planKnocks RX6 4 false tX6_planKnocks := mTok_of (by decide +kernel) ⟨trivial, trivial, trivial, trivial, trivial, trivial, ⟨_, rfl, lfRX6_42⟩, trivial, trivial, trivial, trivial, trivial, trivial, trivial, trivial, trivial, trivial, trivial, trivial, trivial, trivial, trivial, trivial, ⟨_, rfl, lfRX6_33⟩, trivial, trivial, trivial, trivial, trivial, trivial, trivial, trivial, trivial, trivial, trivial, trivial, trivial⟩
def tX6_findNeighbours : List mI := [(0, .iconst 0, 1, 0, 0), (1, .istore_n 1, 1, 0, 0), (2, .iload_n 1, 1, 0, 0), (3, .aload_n 0, 1, 0, 0), (4, .getfield 42, 3, 6, 8), (7, .if_icmp .ge 120, 3, 0, 0), (10, .iconst (-1), 1, 0, 0), (11, .istore_n 2, 1, 0, 0), (12, .iconst (-1), 1, 0, 0), (13, .istore_n 3, 1, 0, 0), (14, .iconst 0, 1, 0, 0), (15, .istore 4, 2, 0, 0), (17, .iload 4, 2, 0, 0), (19, .aload_n 0, 1, 0, 0), (20, .getfield 42, 3, 6, 8), (23, .if_icmp .ge 65, 3, 0, 0), (26, .aload_n 0, 1, 0, 0), (27, .iload 4, 2, 0, 0), (29, .iload_n 1, 1, 0, 0), (30, .invokevirtual 94, 3, 0, 0), (33, .ifCond .eq 21, 3, 0, 0), (36, .iload_n 2, 1, 0, 0), (37, .iconst (-1), 1, 0, 0), (38, .if_icmp .eq 13, 3, 0, 0), (41, .aload_n 0, 1, 0, 0), (42, .iload_n 2, 1, 0, 0), (43, .iload 4, 2, 0, 0), (45, .invokevirtual 94, 3, 0, 0), (48, .ifCond .eq 6, 3, 0, 0), (51, .iload 4, 2, 0, 0), (53, .istore_n 2, 1, 0, 0), (54, .aload_n 0, 1, 0, 0), (55, .iload_n 1, 1, 0, 0), (56, .iload 4, 2, 0, 0), (58, .invokevirtual 94, 3, 0, 0), (61, .ifCond .eq 21, 3, 0, 0), (64, .iload_n 3, 1, 0, 0), (65, .iconst (-1), 1, 0, 0), (66, .if_icmp .eq 13, 3, 0, 0), (69, .aload_n 0, 1, 0, 0), (70, .iload 4, 2, 0, 0), (72, .iload_n 3, 1, 0, 0), (73, .invokevirtual 94, 3, 0, 0), (76, .ifCond .eq 6, 3, 0, 0), (79, .iload 4, 2, 0, 0), (81, .istore_n 3, 1, 0, 0), (82, .iinc 4 1, 3, 0, 0), (85, .goto (-68), 3, 0, 0), (88, .aload_n 0, 1, 0, 0), (89, .getfield 27, 3, 6, 5), (92, .iload_n 1, 1, 0, 0), (93, .iload_n 2, 1, 0, 0), (94, .invokestatic 98, 3, 0, 0), (97, .iload_n 3, 1, 0, 0), (98, .invokestatic 98, 3, 0, 0), (101, .ior, 1, 0, 0), (102, .iastore, 1, 0, 0), (103, .aload_n 0, 1, 0, 0), (104, .getfield 42, 3, 6, 8), (107, .iconst 1, 1, 0, 0), (108, .if_icmp .ne 13, 3, 0, 0), (111, .aload_n 0, 1, 0, 0), (112, .getfield 27, 3, 6, 5), (115, .iload_n 1, 1, 0, 0), (116, .iload_n 1, 1, 0, 0), (117, .invokestatic 98, 3, 0, 0), (120, .iastore, 1, 0, 0), (121, .iinc 1 1, 3, 0, 0), (124, .goto (-122), 3, 0, 0), (127, .return_, 1, 0, 0)]
set_option maxRecDepth 100000 in
theorem kX6_findNeighbours : mTok cX6_findNeighbours RX6 5 false tX6_findNeighbours := mTok_of (by decide +kernel) ⟨trivial, trivial, trivial, trivial, ⟨_, rfl, lfRX6_42⟩, trivial, trivial, trivial, trivial, trivial, trivial, trivial, trivial, trivial, ⟨_, rfl, lfRX6_42⟩, trivial, trivial, trivial, trivial, trivial, trivial, trivial, trivial, trivial, trivial, trivial, trivial, trivial, trivial, trivial, trivial, trivial, trivial, trivial, trivial, trivial, trivial, trivial, trivial, trivial, trivial, trivial, trivial, trivial, trivial, trivial, trivial, trivial, trivial, ⟨_, rfl, lfRX6_27⟩, trivial, trivial, (fun z => by cases z), trivial, (fun z => by cases z), trivial, trivial, trivial, ⟨_, rfl, lfRX6_42⟩, trivial, trivial, trivial, ⟨_, rfl, lfRX6_27⟩, trivial, trivial, (fun z => by cases z), trivial, trivial, trivial, trivial, trivial⟩
def tX6_isBefore : List mI := [(0, .aload_n 0, 1, 0, 0), (1, .getfield 9, 3, 6, 0), (4, .iload_n 1, 1, 0, 0), (5, .iaload, 1, 0, 0), (6, .aload_n 0, 1, 0, 0), (7, .getfield 9, 3, 6, 0), (10, .iload_n 2, 1, 0, 0), (11, .iaload, 1, 0, 0), (12, .isub, 1, 0, 0), (13, .istore_n 3, 1, 0, 0), (14, .iload_n 3, 1, 0, 0), (15, .ifCond .lt 12, 3, 0, 0), (18, .iload_n 3, 1, 0, 0), (19, .ifCond .ne 12, 3, 0, 0), (22, .iload_n 1, 1, 0, 0), (23, .iload_n 2, 1, 0, 0), (24, .if_icmp .ge 7, 3, 0, 0), (27, .iconst 1, 1, 0, 0), (28, .goto 4, 3, 0, 0), (31, .iconst 0, 1, 0, 0), (32, .ireturn, 1, 0, 0)]
set_option maxRecDepth 100000 in
theorem kX6_isBefore : mTok cX6_isBefore RX6 4 false tX6_isBefore := mTok_of (by decide +kernel) ⟨trivial, ⟨_, rfl, lfRX6_9⟩, trivial, trivial, trivial, ⟨_, rfl, lfRX6_9⟩, trivial, trivial, trivial, trivial, trivial, trivial, trivial, trivial, trivial, trivial, trivial, trivial, trivial, trivial, trivial, trivial⟩
def tX6_bitOf : List mI := [(0, .iload_n 0, 1, 0, 0), (1, .iconst (-1), 1, 0, 0), (2, .if_icmp .ne 7, 3, 0, 0), (5, .iconst 0, 1, 0, 0), (6, .goto 6, 3, 0, 0), (9, .iconst 1, 1, 0, 0), (10, .iload_n 0, 1, 0, 0), (11, .ishl, 1, 0, 0), (12, .ireturn, 1, 0, 0)]
set_option maxRecDepth 100000 in
theorem kX6_bitOf : mTok cX6_bitOf RX6 1 false tX6_bitOf := mTok_of (by decide +kernel) ⟨trivial, trivial, trivial, trivial, trivial, trivial, trivial, trivial, trivial, trivial⟩
def tX6_countSteps : List mI := [(0, .aload_n 0, 1, 0, 0), (1, .getfield 30, 3, 6, 6), (4, .ldc 77, 2, 1000000, 0), (6, .invokestatic 50, 3, 0, 0), (9, .aload_n 0, 1, 0, 0), (10, .getfield 30, 3, 6, 6), (13, .iconst 0, 1, 0, 0), (14, .iconst 0, 1, 0, 0), (15, .iastore, 1, 0, 0), (16, .iconst 1, 1, 0, 0), (17, .istore_n 1, 1, 0, 0), (18, .iconst 0, 1, 0, 0), (19, .istore_n 2, 1, 0, 0), (20, .iload_n 2, 1, 0, 0), (21, .bipush 32, 2, 0, 0), (23, .if_icmp .ge 67, 3, 0, 0), (26, .iload_n 1, 1, 0, 0), (27, .ifCond .eq 63, 3, 0, 0), (30, .iconst 0, 1, 0, 0), (31, .istore_n 1, 1, 0, 0), (32, .iconst 1, 1, 0, 0), (33, .istore_n 3, 1, 0, 0), (34, .iload_n 3, 1, 0, 0), (35, .iconst 1, 1, 0, 0), (36, .aload_n 0, 1, 0, 0), (37, .getfield 42, 3, 6, 8), (40, .ishl, 1, 0, 0), (41, .if_icmp .ge 43, 3, 0, 0), (44, .aload_n 0, 1, 0, 0), (45, .iload_n 3, 1, 0, 0), (46, .invokevirtual 101, 3, 0, 0), (49, .istore 4, 2, 0, 0), (51, .iload_n 1, 1, 0, 0), (52, .iload 4, 2, 0, 0), (54, .aload_n 0, 1, 0, 0), (55, .getfield 30, 3, 6, 6), (58, .iload_n 3, 1, 0, 0), (59, .iaload, 1, 0, 0), (60, .if_icmp .ge 7, 3, 0, 0), (63, .iconst 1, 1, 0, 0), (64, .goto 4, 3, 0, 0), (67, .iconst 0, 1, 0, 0), (68, .ior, 1, 0, 0), (69, .istore_n 1, 1, 0, 0), (70, .aload_n 0, 1, 0, 0), (71, .getfield 30, 3, 6, 6), (74, .iload_n 3, 1, 0, 0), (75, .iload 4, 2, 0, 0), (77, .iastore, 1, 0, 0), (78, .iinc 3 1, 3, 0, 0), (81, .goto (-47), 3, 0, 0), (84, .iinc 2 1, 3, 0, 0), (87, .goto (-67), 3, 0, 0), (90, .return_, 1, 0, 0)]
set_option maxRecDepth 100000 in
theorem kX6_countSteps : mTok cX6_countSteps RX6 5 false tX6_countSteps := mTok_of (by decide +kernel) ⟨trivial, ⟨_, rfl, lfRX6_30⟩, lcRX6_77, (fun z => by cases z), trivial, ⟨_, rfl, lfRX6_30⟩, trivial, trivial, trivial, trivial, trivial, trivial, trivial, trivial, trivial, trivial, trivial, trivial, trivial, trivial, trivial, trivial, trivial, trivial, trivial, ⟨_, rfl, lfRX6_42⟩, trivial, trivial, trivial, trivial, trivial, trivial, trivial, trivial, trivial, ⟨_, rfl, lfRX6_30⟩, trivial, trivial, trivial, trivial, trivial, trivial, trivial, trivial, trivial, ⟨_, rfl, lfRX6_30⟩, trivial, trivial, trivial, trivial, trivial, trivial, trivial, trivial, trivial⟩
def tX6_fewestFrom : List mI := [(0, .aload_n 0, 1, 0, 0), (1, .getfield 30, 3, 6, 6), (4, .iload_n 1, 1, 0, 0), (5, .iaload, 1, 0, 0), (6, .istore_n 2, 1, 0, 0), (7, .iconst 0, 1, 0, 0), (8, .istore_n 3, 1, 0, 0), (9, .iload_n 3, 1, 0, 0), (10, .aload_n 0, 1, 0, 0), (11, .getfield 42, 3, 6, 8), (14, .if_icmp .ge 27, 3, 0, 0), (17, .iload_n 2, 1, 0, 0), (18, .aload_n 0, 1, 0, 0), (19, .getfield 30, 3, 6, 6), (22, .aload_n 0, 1, 0, 0), (23, .iload_n 1, 1, 0, 0), (24, .iload_n 3, 1, 0, 0), (25, .invokevirtual 91, 3, 0, 0), (28, .iaload, 1, 0, 0), (29, .iconst 1, 1, 0, 0), (30, .iadd, 1, 0, 0), (31, .invokestatic 78, 3, 0, 0), (34, .istore_n 2, 1, 0, 0), (35, .iinc 3 1, 3, 0, 0), (38, .goto (-29), 3, 0, 0), (41, .iload_n 2, 1, 0, 0), (42, .ireturn, 1, 0, 0)]
set_option maxRecDepth 100000 in
theorem kX6_fewestFrom : mTok cX6_fewestFrom RX6 4 false tX6_fewestFrom := mTok_of (by decide +kernel) ⟨trivial, ⟨_, rfl, lfRX6_30⟩, trivial, trivial, trivial, trivial, trivial, trivial, trivial, ⟨_, rfl, lfRX6_42⟩, trivial, trivial, trivial, ⟨_, rfl, lfRX6_30⟩, trivial, trivial, trivial, trivial, trivial, trivial, trivial, (fun z => by cases z), trivial, trivial, trivial, trivial, trivial, trivial⟩
def tX6_firstOnTheWay : List mI := [(0, .iconst 0, 1, 0, 0), (1, .istore_n 2, 1, 0, 0), (2, .iload_n 2, 1, 0, 0), (3, .aload_n 0, 1, 0, 0), (4, .getfield 42, 3, 6, 8), (7, .if_icmp .ge 31, 3, 0, 0), (10, .aload_n 0, 1, 0, 0), (11, .getfield 30, 3, 6, 6), (14, .aload_n 0, 1, 0, 0), (15, .iload_n 1, 1, 0, 0), (16, .iload_n 2, 1, 0, 0), (17, .invokevirtual 91, 3, 0, 0), (20, .iaload, 1, 0, 0), (21, .aload_n 0, 1, 0, 0), (22, .getfield 30, 3, 6, 6), (25, .iload_n 1, 1, 0, 0), (26, .iaload, 1, 0, 0), (27, .if_icmp .ge 5, 3, 0, 0), (30, .iload_n 2, 1, 0, 0), (31, .ireturn, 1, 0, 0), (32, .iinc 2 1, 3, 0, 0), (35, .goto (-33), 3, 0, 0), (38, .iconst 0, 1, 0, 0), (39, .ireturn, 1, 0, 0)]
set_option maxRecDepth 100000 in
theorem kX6_firstOnTheWay : mTok cX6_firstOnTheWay RX6 3 false tX6_firstOnTheWay := mTok_of (by decide +kernel) ⟨trivial, trivial, trivial, trivial, ⟨_, rfl, lfRX6_42⟩, trivial, trivial, ⟨_, rfl, lfRX6_30⟩, trivial, trivial, trivial, trivial, trivial, trivial, ⟨_, rfl, lfRX6_30⟩, trivial, trivial, trivial, trivial, trivial, trivial, trivial, trivial, trivial, trivial⟩
def tX6_afterKnock : List mI := [(0, .iconst 0, 1, 0, 0), (1, .istore_n 3, 1, 0, 0), (2, .iconst 0, 1, 0, 0), (3, .istore 4, 2, 0, 0), (5, .iload 4, 2, 0, 0), (7, .aload_n 0, 1, 0, 0), (8, .getfield 42, 3, 6, 8), (11, .if_icmp .ge 35, 3, 0, 0), (14, .iload 4, 2, 0, 0), (16, .iload_n 2, 1, 0, 0), (17, .if_icmp .eq 23, 3, 0, 0), (20, .iload_n 1, 1, 0, 0), (21, .iload 4, 2, 0, 0), (23, .ishr, 1, 0, 0), (24, .iconst 1, 1, 0, 0), (25, .iand, 1, 0, 0), (26, .iconst 1, 1, 0, 0), (27, .if_icmp .ne 13, 3, 0, 0), (30, .iload_n 3, 1, 0, 0), (31, .aload_n 0, 1, 0, 0), (32, .getfield 27, 3, 6, 5), (35, .iload 4, 2, 0, 0), (37, .iaload, 1, 0, 0), (38, .ior, 1, 0, 0), (39, .istore_n 3, 1, 0, 0), (40, .iinc 4 1, 3, 0, 0), (43, .goto (-38), 3, 0, 0), (46, .iload_n 3, 1, 0, 0), (47, .ireturn, 1, 0, 0)]
set_option maxRecDepth 100000 in
theorem kX6_afterKnock : mTok cX6_afterKnock RX6 5 false tX6_afterKnock := mTok_of (by decide +kernel) ⟨trivial, trivial, trivial, trivial, trivial, trivial, ⟨_, rfl, lfRX6_42⟩, trivial, trivial, trivial, trivial, trivial, trivial, trivial, trivial, trivial, trivial, trivial, trivial, trivial, ⟨_, rfl, lfRX6_27⟩, trivial, trivial, trivial, trivial, trivial, trivial, trivial, trivial, trivial⟩
def tX7_init : List mI := [(0, .aload_n 0, 1, 0, 0), (1, .invokespecial 3, 3, 0, 8888), (4, .aload_n 0, 1, 0, 0), (5, .iconst 5, 1, 0, 0), (6, .newarray .int, 2, 0, 0), (8, .putfield 9, 3, 7, 0), (11, .aload_n 0, 1, 0, 0), (12, .iconst 5, 1, 0, 0), (13, .newarray .int, 2, 0, 0), (15, .putfield 15, 3, 7, 1), (18, .aload_n 0, 1, 0, 0), (19, .iconst 5, 1, 0, 0), (20, .newarray .int, 2, 0, 0), (22, .putfield 18, 3, 7, 2), (25, .aload_n 0, 1, 0, 0), (26, .iconst 5, 1, 0, 0), (27, .newarray .int, 2, 0, 0), (29, .putfield 21, 3, 7, 3), (32, .return_, 1, 0, 0)]
set_option maxRecDepth 100000 in
theorem kX7_init : mTok cX7_init RX7 1 true tX7_init := mTok_of (by decide +kernel) ⟨trivial, (fun _ => lmRX7_3), trivial, trivial, ⟨la_int, by decide⟩, ⟨_, rfl, lfRX7_9, fun _ => rfl⟩, trivial, trivial, ⟨la_int, by decide⟩, ⟨_, rfl, lfRX7_15, fun _ => rfl⟩, trivial, trivial, ⟨la_int, by decide⟩, ⟨_, rfl, lfRX7_18, fun _ => rfl⟩, trivial, trivial, ⟨la_int, by decide⟩, ⟨_, rfl, lfRX7_21, fun _ => rfl⟩, trivial, trivial⟩
def tX7_look : List mI := [(0, .aload_n 0, 1, 0, 0), (1, .iload_n 2, 1, 0, 0), (2, .putfield 24, 3, 7, 4), (5, .aload_n 1, 1, 0, 0), (6, .bipush 10, 2, 0, 0), (8, .aload_n 0, 1, 0, 0), (9, .getfield 9, 3, 7, 0), (12, .iconst 0, 1, 0, 0), (13, .aload_n 0, 1, 0, 0), (14, .getfield 24, 3, 7, 4), (17, .invokestatic 28, 3, 0, 7777), (20, .return_, 1, 0, 0)]
set_option maxRecDepth 100000 in
theorem kX7_look : mTok cX7_look RX7 3 false tX7_look := mTok_of (by decide +kernel) ⟨trivial, trivial, ⟨_, rfl, lfRX7_24, (fun z => by cases z)⟩, trivial, trivial, trivial, ⟨_, rfl, lfRX7_9⟩, trivial, trivial, ⟨_, rfl, lfRX7_24⟩, (fun _ => lmRX7_28), trivial, trivial⟩
def tX7_share : List mI := [(0, .iconst 0, 1, 0, 0), (1, .istore_n 3, 1, 0, 0), (2, .iconst 0, 1, 0, 0), (3, .istore 4, 2, 0, 0), (5, .iload 4, 2, 0, 0), (7, .aload_n 0, 1, 0, 0), (8, .getfield 24, 3, 7, 4), (11, .if_icmp .ge 27, 3, 0, 0), (14, .iload_n 3, 1, 0, 0), (15, .aload_n 0, 1, 0, 0), (16, .getfield 9, 3, 7, 0), (19, .iload 4, 2, 0, 0), (21, .iaload, 1, 0, 0), (22, .iadd, 1, 0, 0), (23, .istore_n 3, 1, 0, 0), (24, .aload_n 0, 1, 0, 0), (25, .getfield 15, 3, 7, 1), (28, .iload 4, 2, 0, 0), (30, .iconst 0, 1, 0, 0), (31, .iastore, 1, 0, 0), (32, .iinc 4 1, 3, 0, 0), (35, .goto (-30), 3, 0, 0), (38, .iload_n 3, 1, 0, 0), (39, .ifCond .ne 4, 3, 0, 0), (42, .return_, 1, 0, 0), (43, .iload_n 2, 1, 0, 0), (44, .ifCond .ne 12, 3, 0, 0), (47, .aload_n 0, 1, 0, 0), (48, .iload_n 1, 1, 0, 0), (49, .iload_n 3, 1, 0, 0), (50, .invokevirtual 34, 3, 0, 0), (53, .goto 8, 3, 0, 0), (56, .aload_n 0, 1, 0, 0), (57, .iload_n 1, 1, 0, 0), (58, .invokevirtual 38, 3, 0, 0), (61, .return_, 1, 0, 0)]
set_option maxRecDepth 100000 in
theorem kX7_share : mTok cX7_share RX7 5 false tX7_share := mTok_of (by decide +kernel) ⟨trivial, trivial, trivial, trivial, trivial, trivial, ⟨_, rfl, lfRX7_24⟩, trivial, trivial, trivial, ⟨_, rfl, lfRX7_9⟩, trivial, trivial, trivial, trivial, trivial, ⟨_, rfl, lfRX7_15⟩, trivial, trivial, trivial, trivial, trivial, trivial, trivial, trivial, trivial, trivial, trivial, trivial, trivial, trivial, trivial, trivial, trivial, trivial, trivial, trivial⟩
def tX7_changedByOne : List mI := [(0, .aload_n 0, 1, 0, 0), (1, .iload_n 1, 1, 0, 0), (2, .iload_n 2, 1, 0, 0), (3, .invokevirtual 42, 3, 0, 0), (6, .aload_n 0, 1, 0, 0), (7, .getfield 15, 3, 7, 1), (10, .iconst 0, 1, 0, 0), (11, .aload_n 0, 1, 0, 0), (12, .getfield 21, 3, 7, 3), (15, .iconst 0, 1, 0, 0), (16, .aload_n 0, 1, 0, 0), (17, .getfield 24, 3, 7, 4), (20, .invokestatic 28, 3, 0, 7777), (23, .iconst 0, 1, 0, 0), (24, .istore_n 3, 1, 0, 0), (25, .iconst 0, 1, 0, 0), (26, .istore 4, 2, 0, 0), (28, .iload 4, 2, 0, 0), (30, .aload_n 0, 1, 0, 0), (31, .getfield 24, 3, 7, 4), (34, .if_icmp .ge 51, 3, 0, 0), (37, .aload_n 0, 1, 0, 0), (38, .getfield 9, 3, 7, 0), (41, .iload 4, 2, 0, 0), (43, .dup2, 1, 0, 0), (44, .iaload, 1, 0, 0), (45, .iconst 1, 1, 0, 0), (46, .iadd, 1, 0, 0), (47, .iastore, 1, 0, 0), (48, .aload_n 0, 1, 0, 0), (49, .iload_n 1, 1, 0, 0), (50, .iload_n 2, 1, 0, 0), (51, .invokevirtual 42, 3, 0, 0), (54, .aload_n 0, 1, 0, 0), (55, .getfield 9, 3, 7, 0), (58, .iload 4, 2, 0, 0), (60, .dup2, 1, 0, 0), (61, .iaload, 1, 0, 0), (62, .iconst 1, 1, 0, 0), (63, .isub, 1, 0, 0), (64, .iastore, 1, 0, 0), (65, .aload_n 0, 1, 0, 0), (66, .invokevirtual 45, 3, 0, 0), (69, .ifCond .eq 10, 3, 0, 0), (72, .iload_n 3, 1, 0, 0), (73, .iconst 1, 1, 0, 0), (74, .iload 4, 2, 0, 0), (76, .ishl, 1, 0, 0), (77, .ior, 1, 0, 0), (78, .istore_n 3, 1, 0, 0), (79, .iinc 4 1, 3, 0, 0), (82, .goto (-54), 3, 0, 0), (85, .iload_n 3, 1, 0, 0), (86, .ireturn, 1, 0, 0)]
set_option maxRecDepth 100000 in
theorem kX7_changedByOne : mTok cX7_changedByOne RX7 5 false tX7_changedByOne := mTok_of (by decide +kernel) ⟨trivial, trivial, trivial, trivial, trivial, ⟨_, rfl, lfRX7_15⟩, trivial, trivial, ⟨_, rfl, lfRX7_21⟩, trivial, trivial, ⟨_, rfl, lfRX7_24⟩, (fun _ => lmRX7_28), trivial, trivial, trivial, trivial, trivial, trivial, ⟨_, rfl, lfRX7_24⟩, trivial, trivial, ⟨_, rfl, lfRX7_9⟩, trivial, trivial, trivial, trivial, trivial, trivial, trivial, trivial, trivial, trivial, trivial, ⟨_, rfl, lfRX7_9⟩, trivial, trivial, trivial, trivial, trivial, trivial, trivial, trivial, trivial, trivial, trivial, trivial, trivial, trivial, trivial, trivial, trivial, trivial, trivial, trivial⟩
def tX7_firstLoser : List mI := [(0, .aload_n 0, 1, 0, 0), (1, .iload_n 1, 1, 0, 0), (2, .iconst 1, 1, 0, 0), (3, .isub, 1, 0, 0), (4, .iconst 0, 1, 0, 0), (5, .invokevirtual 42, 3, 0, 0), (8, .aload_n 0, 1, 0, 0), (9, .getfield 15, 3, 7, 1), (12, .iconst 0, 1, 0, 0), (13, .aload_n 0, 1, 0, 0), (14, .getfield 21, 3, 7, 3), (17, .iconst 0, 1, 0, 0), (18, .aload_n 0, 1, 0, 0), (19, .getfield 24, 3, 7, 4), (22, .invokestatic 28, 3, 0, 7777), (25, .aload_n 0, 1, 0, 0), (26, .iload_n 1, 1, 0, 0), (27, .iconst 0, 1, 0, 0), (28, .invokevirtual 42, 3, 0, 0), (31, .iconst 0, 1, 0, 0), (32, .istore_n 2, 1, 0, 0), (33, .iload_n 2, 1, 0, 0), (34, .aload_n 0, 1, 0, 0), (35, .getfield 24, 3, 7, 4), (38, .if_icmp .ge 26, 3, 0, 0), (41, .aload_n 0, 1, 0, 0), (42, .getfield 15, 3, 7, 1), (45, .iload_n 2, 1, 0, 0), (46, .iaload, 1, 0, 0), (47, .aload_n 0, 1, 0, 0), (48, .getfield 21, 3, 7, 3), (51, .iload_n 2, 1, 0, 0), (52, .iaload, 1, 0, 0), (53, .if_icmp .ge 5, 3, 0, 0), (56, .iload_n 2, 1, 0, 0), (57, .ireturn, 1, 0, 0), (58, .iinc 2 1, 3, 0, 0), (61, .goto (-28), 3, 0, 0), (64, .iconst (-1), 1, 0, 0), (65, .ireturn, 1, 0, 0)]
set_option maxRecDepth 100000 in
theorem kX7_firstLoser : mTok cX7_firstLoser RX7 3 false tX7_firstLoser := mTok_of (by decide +kernel) ⟨trivial, trivial, trivial, trivial, trivial, trivial, trivial, ⟨_, rfl, lfRX7_15⟩, trivial, trivial, ⟨_, rfl, lfRX7_21⟩, trivial, trivial, ⟨_, rfl, lfRX7_24⟩, (fun _ => lmRX7_28), trivial, trivial, trivial, trivial, trivial, trivial, trivial, trivial, ⟨_, rfl, lfRX7_24⟩, trivial, trivial, ⟨_, rfl, lfRX7_15⟩, trivial, trivial, trivial, ⟨_, rfl, lfRX7_21⟩, trivial, trivial, trivial, trivial, trivial, trivial, trivial, trivial, trivial, trivial⟩
def tX7_isChanged : List mI := [(0, .iconst 0, 1, 0, 0), (1, .istore_n 1, 1, 0, 0), (2, .iload_n 1, 1, 0, 0), (3, .aload_n 0, 1, 0, 0), (4, .getfield 24, 3, 7, 4), (7, .if_icmp .ge 26, 3, 0, 0), (10, .aload_n 0, 1, 0, 0), (11, .getfield 15, 3, 7, 1), (14, .iload_n 1, 1, 0, 0), (15, .iaload, 1, 0, 0), (16, .aload_n 0, 1, 0, 0), (17, .getfield 21, 3, 7, 3), (20, .iload_n 1, 1, 0, 0), (21, .iaload, 1, 0, 0), (22, .if_icmp .eq 5, 3, 0, 0), (25, .iconst 1, 1, 0, 0), (26, .ireturn, 1, 0, 0), (27, .iinc 1 1, 3, 0, 0), (30, .goto (-28), 3, 0, 0), (33, .iconst 0, 1, 0, 0), (34, .ireturn, 1, 0, 0)]
set_option maxRecDepth 100000 in
theorem kX7_isChanged : mTok cX7_isChanged RX7 2 false tX7_isChanged := mTok_of (by decide +kernel) ⟨trivial, trivial, trivial, trivial, ⟨_, rfl, lfRX7_24⟩, trivial, trivial, ⟨_, rfl, lfRX7_15⟩, trivial, trivial, trivial, ⟨_, rfl, lfRX7_21⟩, trivial, trivial, trivial, trivial, trivial, trivial, trivial, trivial, trivial, trivial⟩
def tX7_shareByRests : List mI := [(0, .iload_n 1, 1, 0, 0), (1, .istore_n 3, 1, 0, 0), (2, .iconst 0, 1, 0, 0), (3, .istore 4, 2, 0, 0), (5, .iload 4, 2, 0, 0), (7, .aload_n 0, 1, 0, 0), (8, .getfield 24, 3, 7, 4), (11, .if_icmp .ge 56, 3, 0, 0), (14, .iload_n 2, 1, 0, 0), (15, .ifCond .le 52, 3, 0, 0), (18, .aload_n 0, 1, 0, 0), (19, .getfield 9, 3, 7, 0), (22, .iload 4, 2, 0, 0), (24, .iaload, 1, 0, 0), (25, .iload_n 1, 1, 0, 0), (26, .imul, 1, 0, 0), (27, .istore 5, 2, 0, 0), (29, .aload_n 0, 1, 0, 0), (30, .getfield 15, 3, 7, 1), (33, .iload 4, 2, 0, 0), (35, .iload 5, 2, 0, 0), (37, .iload_n 2, 1, 0, 0), (38, .idiv, 1, 0, 0), (39, .iastore, 1, 0, 0), (40, .aload_n 0, 1, 0, 0), (41, .getfield 18, 3, 7, 2), (44, .iload 4, 2, 0, 0), (46, .iload 5, 2, 0, 0), (48, .iload_n 2, 1, 0, 0), (49, .irem, 1, 0, 0), (50, .iastore, 1, 0, 0), (51, .iload_n 3, 1, 0, 0), (52, .aload_n 0, 1, 0, 0), (53, .getfield 15, 3, 7, 1), (56, .iload 4, 2, 0, 0), (58, .iaload, 1, 0, 0), (59, .isub, 1, 0, 0), (60, .istore_n 3, 1, 0, 0), (61, .iinc 4 1, 3, 0, 0), (64, .goto (-59), 3, 0, 0), (67, .iconst 0, 1, 0, 0), (68, .istore 4, 2, 0, 0), (70, .iload 4, 2, 0, 0), (72, .iload_n 3, 1, 0, 0), (73, .if_icmp .ge 40, 3, 0, 0), (76, .iload 4, 2, 0, 0), (78, .iconst 5, 1, 0, 0), (79, .if_icmp .ge 34, 3, 0, 0), (82, .aload_n 0, 1, 0, 0), (83, .invokevirtual 49, 3, 0, 0), (86, .istore 5, 2, 0, 0), (88, .aload_n 0, 1, 0, 0), (89, .getfield 15, 3, 7, 1), (92, .iload 5, 2, 0, 0), (94, .dup2, 1, 0, 0), (95, .iaload, 1, 0, 0), (96, .iconst 1, 1, 0, 0), (97, .iadd, 1, 0, 0), (98, .iastore, 1, 0, 0), (99, .aload_n 0, 1, 0, 0), (100, .getfield 18, 3, 7, 2), (103, .iload 5, 2, 0, 0), (105, .iconst (-1), 1, 0, 0), (106, .iastore, 1, 0, 0), (107, .iinc 4 1, 3, 0, 0), (110, .goto (-40), 3, 0, 0), (113, .return_, 1, 0, 0)]
set_option maxRecDepth 100000 in
theorem kX7_shareByRests : mTok cX7_shareByRests RX7 6 false tX7_shareByRests := mTok_of (by decide +kernel) ⟨trivial, trivial, trivial, trivial, trivial, trivial, ⟨_, rfl, lfRX7_24⟩, trivial, trivial, trivial, trivial, ⟨_, rfl, lfRX7_9⟩, trivial, trivial, trivial, trivial, trivial, trivial, ⟨_, rfl, lfRX7_15⟩, trivial, trivial, trivial, trivial, trivial, trivial, ⟨_, rfl, lfRX7_18⟩, trivial, trivial, trivial, trivial, trivial, trivial, trivial, ⟨_, rfl, lfRX7_15⟩, trivial, trivial, trivial, trivial, trivial, trivial, trivial, trivial, trivial, trivial, trivial, trivial, trivial, trivial, trivial, trivial, trivial, trivial, ⟨_, rfl, lfRX7_15⟩, trivial, trivial, trivial, trivial, trivial, trivial, trivial, ⟨_, rfl, lfRX7_18⟩, trivial, trivial, trivial, trivial, trivial, trivial, trivial⟩
def tX7_greatestRest : List mI := [(0, .iconst 0, 1, 0, 0), (1, .istore_n 1, 1, 0, 0), (2, .iconst 1, 1, 0, 0), (3, .istore_n 2, 1, 0, 0), (4, .iload_n 2, 1, 0, 0), (5, .aload_n 0, 1, 0, 0), (6, .getfield 24, 3, 7, 4), (9, .if_icmp .ge 26, 3, 0, 0), (12, .aload_n 0, 1, 0, 0), (13, .getfield 18, 3, 7, 2), (16, .iload_n 2, 1, 0, 0), (17, .iaload, 1, 0, 0), (18, .aload_n 0, 1, 0, 0), (19, .getfield 18, 3, 7, 2), (22, .iload_n 1, 1, 0, 0), (23, .iaload, 1, 0, 0), (24, .if_icmp .le 5, 3, 0, 0), (27, .iload_n 2, 1, 0, 0), (28, .istore_n 1, 1, 0, 0), (29, .iinc 2 1, 3, 0, 0), (32, .goto (-28), 3, 0, 0), (35, .iload_n 1, 1, 0, 0), (36, .ireturn, 1, 0, 0)]
set_option maxRecDepth 100000 in
theorem kX7_greatestRest : mTok cX7_greatestRest RX7 3 false tX7_greatestRest := mTok_of (by decide +kernel) ⟨trivial, trivial, trivial, trivial, trivial, trivial, ⟨_, rfl, lfRX7_24⟩, trivial, trivial, ⟨_, rfl, lfRX7_18⟩, trivial, trivial, trivial, ⟨_, rfl, lfRX7_18⟩, trivial, trivial, trivial, trivial, trivial, trivial, trivial, trivial, trivial, trivial⟩
def tX7_shareOneByOne : List mI := [(0, .iconst 0, 1, 0, 0), (1, .istore_n 2, 1, 0, 0), (2, .iload_n 2, 1, 0, 0), (3, .iload_n 1, 1, 0, 0), (4, .if_icmp .ge 77, 3, 0, 0), (7, .iconst 0, 1, 0, 0), (8, .istore_n 3, 1, 0, 0), (9, .iconst 1, 1, 0, 0), (10, .istore 4, 2, 0, 0), (12, .iload 4, 2, 0, 0), (14, .aload_n 0, 1, 0, 0), (15, .getfield 24, 3, 7, 4), (18, .if_icmp .ge 47, 3, 0, 0), (21, .aload_n 0, 1, 0, 0), (22, .getfield 9, 3, 7, 0), (25, .iload 4, 2, 0, 0), (27, .iaload, 1, 0, 0), (28, .aload_n 0, 1, 0, 0), (29, .getfield 15, 3, 7, 1), (32, .iload_n 3, 1, 0, 0), (33, .iaload, 1, 0, 0), (34, .iconst 1, 1, 0, 0), (35, .iadd, 1, 0, 0), (36, .imul, 1, 0, 0), (37, .aload_n 0, 1, 0, 0), (38, .getfield 9, 3, 7, 0), (41, .iload_n 3, 1, 0, 0), (42, .iaload, 1, 0, 0), (43, .aload_n 0, 1, 0, 0), (44, .getfield 15, 3, 7, 1), (47, .iload 4, 2, 0, 0), (49, .iaload, 1, 0, 0), (50, .iconst 1, 1, 0, 0), (51, .iadd, 1, 0, 0), (52, .imul, 1, 0, 0), (53, .if_icmp .le 6, 3, 0, 0), (56, .iload 4, 2, 0, 0), (58, .istore_n 3, 1, 0, 0), (59, .iinc 4 1, 3, 0, 0), (62, .goto (-50), 3, 0, 0), (65, .aload_n 0, 1, 0, 0), (66, .getfield 15, 3, 7, 1), (69, .iload_n 3, 1, 0, 0), (70, .dup2, 1, 0, 0), (71, .iaload, 1, 0, 0), (72, .iconst 1, 1, 0, 0), (73, .iadd, 1, 0, 0), (74, .iastore, 1, 0, 0), (75, .iinc 2 1, 3, 0, 0), (78, .goto (-76), 3, 0, 0), (81, .return_, 1, 0, 0)]
set_option maxRecDepth 100000 in
theorem kX7_shareOneByOne : mTok cX7_shareOneByOne RX7 5 false tX7_shareOneByOne := mTok_of (by decide +kernel) ⟨trivial, trivial, trivial, trivial, trivial, trivial, trivial, trivial, trivial, trivial, trivial, ⟨_, rfl, lfRX7_24⟩, trivial, trivial, ⟨_, rfl, lfRX7_9⟩, trivial, trivial, trivial, ⟨_, rfl, lfRX7_15⟩, trivial, trivial, trivial, trivial, trivial, trivial, ⟨_, rfl, lfRX7_9⟩, trivial, trivial, trivial, ⟨_, rfl, lfRX7_15⟩, trivial, trivial, trivial, trivial, trivial, trivial, trivial, trivial, trivial, trivial, trivial, ⟨_, rfl, lfRX7_15⟩, trivial, trivial, trivial, trivial, trivial, trivial, trivial, trivial, trivial, trivial⟩
def tX8_init : List mI := [(0, .aload_n 0, 1, 0, 0), (1, .invokespecial 3, 3, 0, 8888), (4, .aload_n 0, 1, 0, 0), (5, .iconst 5, 1, 0, 0), (6, .newarray .long, 2, 0, 0), (8, .putfield 9, 3, 8, 0), (11, .aload_n 0, 1, 0, 0), (12, .iconst 5, 1, 0, 0), (13, .newarray .int, 2, 0, 0), (15, .putfield 15, 3, 8, 1), (18, .aload_n 0, 1, 0, 0), (19, .iconst 5, 1, 0, 0), (20, .newarray .int, 2, 0, 0), (22, .putfield 19, 3, 8, 2), (25, .aload_n 0, 1, 0, 0), (26, .iconst 5, 1, 0, 0), (27, .newarray .int, 2, 0, 0), (29, .putfield 22, 3, 8, 3), (32, .aload_n 0, 1, 0, 0), (33, .iconst 5, 1, 0, 0), (34, .newarray .int, 2, 0, 0), (36, .putfield 25, 3, 8, 4), (39, .aload_n 0, 1, 0, 0), (40, .new 28, 3, 0, 0), (43, .dup, 1, 0, 0), (44, .invokespecial 30, 3, 0, 0), (47, .putfield 31, 3, 8, 5), (50, .aload_n 0, 1, 0, 0), (51, .new 28, 3, 0, 0), (54, .dup, 1, 0, 0), (55, .invokespecial 30, 3, 0, 0), (58, .putfield 35, 3, 8, 6), (61, .aload_n 0, 1, 0, 0), (62, .new 28, 3, 0, 0), (65, .dup, 1, 0, 0), (66, .invokespecial 30, 3, 0, 0), (69, .putfield 38, 3, 8, 7), (72, .aload_n 0, 1, 0, 0), (73, .bipush 6, 2, 0, 0), (75, .newarray .int, 2, 0, 0), (77, .putfield 41, 3, 8, 8), (80, .return_, 1, 0, 0)]
set_option maxRecDepth 100000 in
theorem kX8_init : mTok cX8_init RX8 1 true tX8_init := mTok_of (by decide +kernel) ⟨trivial, (fun _ => lmRX8_3), trivial, trivial, ⟨la_long, by decide⟩, ⟨_, rfl, lfRX8_9, fun _ => rfl⟩, trivial, trivial, ⟨la_int, by decide⟩, ⟨_, rfl, lfRX8_15, fun _ => rfl⟩, trivial, trivial, ⟨la_int, by decide⟩, ⟨_, rfl, lfRX8_19, fun _ => rfl⟩, trivial, trivial, ⟨la_int, by decide⟩, ⟨_, rfl, lfRX8_22, fun _ => rfl⟩, trivial, trivial, ⟨la_int, by decide⟩, ⟨_, rfl, lfRX8_25, fun _ => rfl⟩, trivial, ⟨_, rfl, lnRX8_28, ls_RX0, li_RX0⟩, trivial, (fun z => by cases z), ⟨_, rfl, lfRX8_31, fun _ => rfl⟩, trivial, ⟨_, rfl, lnRX8_28, ls_RX0, li_RX0⟩, trivial, (fun z => by cases z), ⟨_, rfl, lfRX8_35, fun _ => rfl⟩, trivial, ⟨_, rfl, lnRX8_28, ls_RX0, li_RX0⟩, trivial, (fun z => by cases z), ⟨_, rfl, lfRX8_38, fun _ => rfl⟩, trivial, trivial, ⟨la_int, by decide⟩, ⟨_, rfl, lfRX8_41, fun _ => rfl⟩, trivial, trivial⟩
def tX8_clear : List mI := [(0, .aload_n 0, 1, 0, 0), (1, .iconst 0, 1, 0, 0), (2, .putfield 44, 3, 8, 9), (5, .aload_n 0, 1, 0, 0), (6, .iconst 0, 1, 0, 0), (7, .putfield 48, 3, 8, 10), (10, .aload_n 0, 1, 0, 0), (11, .iconst 0, 1, 0, 0), (12, .putfield 51, 3, 8, 11), (15, .aload_n 0, 1, 0, 0), (16, .getfield 31, 3, 8, 5), (19, .invokevirtual 55, 3, 0, 0), (22, .aload_n 0, 1, 0, 0), (23, .getfield 35, 3, 8, 6), (26, .invokevirtual 55, 3, 0, 0), (29, .aload_n 0, 1, 0, 0), (30, .getfield 38, 3, 8, 7), (33, .invokevirtual 55, 3, 0, 0), (36, .return_, 1, 0, 0)]
set_option maxRecDepth 100000 in
theorem kX8_clear : mTok cX8_clear RX8 1 false tX8_clear := mTok_of (by decide +kernel) ⟨trivial, trivial, ⟨_, rfl, lfRX8_44, (fun z => by cases z)⟩, trivial, trivial, ⟨_, rfl, lfRX8_48, (fun z => by cases z)⟩, trivial, trivial, ⟨_, rfl, lfRX8_51, (fun z => by cases z)⟩, trivial, ⟨_, rfl, lfRX8_31⟩, trivial, trivial, ⟨_, rfl, lfRX8_35⟩, trivial, trivial, ⟨_, rfl, lfRX8_38⟩, trivial, trivial, trivial⟩
def tX8_hasName : List mI := [(0, .iconst 0, 1, 0, 0), (1, .istore_n 3, 1, 0, 0), (2, .iload_n 3, 1, 0, 0), (3, .aload_n 0, 1, 0, 0), (4, .getfield 44, 3, 8, 9), (7, .if_icmp .ge 22, 3, 0, 0), (10, .aload_n 0, 1, 0, 0), (11, .getfield 9, 3, 8, 0), (14, .iload_n 3, 1, 0, 0), (15, .laload, 1, 0, 0), (16, .lload_n 1, 1, 0, 0), (17, .lcmp, 1, 0, 0), (18, .ifCond .ne 5, 3, 0, 0), (21, .iconst 1, 1, 0, 0), (22, .ireturn, 1, 0, 0), (23, .iinc 3 1, 3, 0, 0), (26, .goto (-24), 3, 0, 0), (29, .iconst 0, 1, 0, 0), (30, .ireturn, 1, 0, 0)]
set_option maxRecDepth 100000 in
theorem kX8_hasName : mTok cX8_hasName RX8 4 false tX8_hasName := mTok_of (by decide +kernel) ⟨trivial, trivial, trivial, trivial, ⟨_, rfl, lfRX8_44⟩, trivial, trivial, ⟨_, rfl, lfRX8_9⟩, trivial, trivial, trivial, trivial, trivial, trivial, trivial, trivial, trivial, trivial, trivial, trivial⟩
def tX8_addHouse : List mI := [(0, .aload_n 0, 1, 0, 0), (1, .getfield 44, 3, 8, 9), (4, .iconst 5, 1, 0, 0), (5, .if_icmp .ge 66, 3, 0, 0), (8, .aload_n 0, 1, 0, 0), (9, .getfield 9, 3, 8, 0), (12, .aload_n 0, 1, 0, 0), (13, .getfield 44, 3, 8, 9), (16, .lload_n 1, 1, 0, 0), (17, .lastore, 1, 0, 0), (18, .aload_n 0, 1, 0, 0), (19, .getfield 15, 3, 8, 1), (22, .aload_n 0, 1, 0, 0), (23, .getfield 44, 3, 8, 9), (26, .iload_n 3, 1, 0, 0), (27, .iastore, 1, 0, 0), (28, .aload_n 0, 1, 0, 0), (29, .getfield 19, 3, 8, 2), (32, .aload_n 0, 1, 0, 0), (33, .getfield 44, 3, 8, 9), (36, .iload 4, 2, 0, 0), (38, .iastore, 1, 0, 0), (39, .aload_n 0, 1, 0, 0), (40, .getfield 22, 3, 8, 3), (43, .aload_n 0, 1, 0, 0), (44, .getfield 44, 3, 8, 9), (47, .iload 5, 2, 0, 0), (49, .iastore, 1, 0, 0), (50, .aload_n 0, 1, 0, 0), (51, .getfield 25, 3, 8, 4), (54, .aload_n 0, 1, 0, 0), (55, .getfield 44, 3, 8, 9), (58, .iload 6, 2, 0, 0), (60, .iastore, 1, 0, 0), (61, .aload_n 0, 1, 0, 0), (62, .dup, 1, 0, 0), (63, .getfield 44, 3, 8, 9), (66, .iconst 1, 1, 0, 0), (67, .iadd, 1, 0, 0), (68, .putfield 44, 3, 8, 9), (71, .return_, 1, 0, 0)]
set_option maxRecDepth 100000 in
theorem kX8_addHouse : mTok cX8_addHouse RX8 7 false tX8_addHouse := mTok_of (by decide +kernel) ⟨trivial, ⟨_, rfl, lfRX8_44⟩, trivial, trivial, trivial, ⟨_, rfl, lfRX8_9⟩, trivial, ⟨_, rfl, lfRX8_44⟩, trivial, trivial, trivial, ⟨_, rfl, lfRX8_15⟩, trivial, ⟨_, rfl, lfRX8_44⟩, trivial, trivial, trivial, ⟨_, rfl, lfRX8_19⟩, trivial, ⟨_, rfl, lfRX8_44⟩, trivial, trivial, trivial, ⟨_, rfl, lfRX8_22⟩, trivial, ⟨_, rfl, lfRX8_44⟩, trivial, trivial, trivial, ⟨_, rfl, lfRX8_25⟩, trivial, ⟨_, rfl, lfRX8_44⟩, trivial, trivial, trivial, trivial, ⟨_, rfl, lfRX8_44⟩, trivial, trivial, ⟨_, rfl, lfRX8_44, (fun z => by cases z)⟩, trivial, trivial⟩
def tX8_unitsOfLaws : List mI := [(0, .aload_n 0, 1, 0, 0), (1, .getfield 31, 3, 8, 5), (4, .getfield 58, 3, 0, 3), (7, .aload_n 0, 1, 0, 0), (8, .getfield 35, 3, 8, 6), (11, .getfield 58, 3, 0, 3), (14, .iadd, 1, 0, 0), (15, .aload_n 0, 1, 0, 0), (16, .getfield 38, 3, 8, 7), (19, .getfield 58, 3, 0, 3), (22, .iadd, 1, 0, 0), (23, .ireturn, 1, 0, 0)]
set_option maxRecDepth 100000 in
theorem kX8_unitsOfLaws : mTok cX8_unitsOfLaws RX8 1 false tX8_unitsOfLaws := mTok_of (by decide +kernel) ⟨trivial, ⟨_, rfl, lfRX8_31⟩, ⟨_, rfl, lfRX8_58⟩, trivial, ⟨_, rfl, lfRX8_35⟩, ⟨_, rfl, lfRX8_58⟩, trivial, trivial, ⟨_, rfl, lfRX8_38⟩, ⟨_, rfl, lfRX8_58⟩, trivial, trivial, trivial⟩
def tX8_begin : List mI := [(0, .aload_n 1, 1, 0, 0), (1, .iconst 0, 1, 0, 0), (2, .invokestatic 61, 3, 0, 0), (5, .aload_n 0, 1, 0, 0), (6, .getfield 19, 3, 8, 2), (9, .iconst 0, 1, 0, 0), (10, .aload_n 1, 1, 0, 0), (11, .iconst 0, 1, 0, 0), (12, .aload_n 0, 1, 0, 0), (13, .getfield 44, 3, 8, 9), (16, .invokestatic 67, 3, 0, 7777), (19, .aload_n 1, 1, 0, 0), (20, .bipush 16, 2, 0, 0), (22, .aload_n 0, 1, 0, 0), (23, .getfield 48, 3, 8, 10), (26, .iastore, 1, 0, 0), (27, .return_, 1, 0, 0)]
set_option maxRecDepth 100000 in
theorem kX8_begin : mTok cX8_begin RX8 2 false tX8_begin := mTok_of (by decide +kernel) ⟨trivial, trivial, (fun z => by cases z), trivial, ⟨_, rfl, lfRX8_19⟩, trivial, trivial, trivial, trivial, ⟨_, rfl, lfRX8_44⟩, (fun _ => lmRX8_67), trivial, trivial, trivial, ⟨_, rfl, lfRX8_48⟩, trivial, trivial, trivial⟩
def tX8_stonesOf : List mI := [(0, .aload_n 0, 1, 0, 0), (1, .aload_n 1, 1, 0, 0), (2, .iload_n 2, 1, 0, 0), (3, .aload_n 1, 1, 0, 0), (4, .iconst 5, 1, 0, 0), (5, .iload_n 2, 1, 0, 0), (6, .iadd, 1, 0, 0), (7, .iaload, 1, 0, 0), (8, .invokevirtual 73, 3, 0, 0), (11, .ireturn, 1, 0, 0)]
set_option maxRecDepth 100000 in
theorem kX8_stonesOf : mTok cX8_stonesOf RX8 3 false tX8_stonesOf := mTok_of (by decide +kernel) ⟨trivial, trivial, trivial, trivial, trivial, trivial, trivial, trivial, trivial, trivial, trivial⟩
def tX8_stonesHiding : List mI := [(0, .aload_n 1, 1, 0, 0), (1, .iconst 0, 1, 0, 0), (2, .iload_n 2, 1, 0, 0), (3, .iadd, 1, 0, 0), (4, .iaload, 1, 0, 0), (5, .istore 4, 2, 0, 0), (7, .aload_n 0, 1, 0, 0), (8, .getfield 31, 3, 8, 5), (11, .getfield 77, 3, 0, 4), (14, .ifCond .ne 21, 3, 0, 0), (17, .iload 4, 2, 0, 0), (19, .iload_n 3, 1, 0, 0), (20, .isub, 1, 0, 0), (21, .aload_n 0, 1, 0, 0), (22, .getfield 25, 3, 8, 4), (25, .iload_n 2, 1, 0, 0), (26, .iaload, 1, 0, 0), (27, .iadd, 1, 0, 0), (28, .iconst 0, 1, 0, 0), (29, .bipush 99, 2, 0, 0), (31, .invokestatic 80, 3, 0, 0), (34, .ireturn, 1, 0, 0), (35, .aload_n 0, 1, 0, 0), (36, .iload 4, 2, 0, 0), (38, .iload_n 3, 1, 0, 0), (39, .aload_n 0, 1, 0, 0), (40, .getfield 22, 3, 8, 3), (43, .iload_n 2, 1, 0, 0), (44, .iaload, 1, 0, 0), (45, .aload_n 0, 1, 0, 0), (46, .getfield 25, 3, 8, 4), (49, .iload_n 2, 1, 0, 0), (50, .iaload, 1, 0, 0), (51, .iconst 0, 1, 0, 0), (52, .aload_n 1, 1, 0, 0), (53, .bipush 15, 2, 0, 0), (55, .iaload, 1, 0, 0), (56, .invokevirtual 84, 3, 0, 0), (59, .aload_n 0, 1, 0, 0), (60, .getfield 31, 3, 8, 5), (63, .aload_n 0, 1, 0, 0), (64, .getfield 41, 3, 8, 8), (67, .invokevirtual 88, 3, 0, 0), (70, .iconst 0, 1, 0, 0), (71, .bipush 99, 2, 0, 0), (73, .invokestatic 80, 3, 0, 0), (76, .ireturn, 1, 0, 0)]
set_option maxRecDepth 100000 in
theorem kX8_stonesHiding : mTok cX8_stonesHiding RX8 5 false tX8_stonesHiding := mTok_of (by decide +kernel) ⟨trivial, trivial, trivial, trivial, trivial, trivial, trivial, ⟨_, rfl, lfRX8_31⟩, ⟨_, rfl, lfRX8_77⟩, trivial, trivial, trivial, trivial, trivial, ⟨_, rfl, lfRX8_25⟩, trivial, trivial, trivial, trivial, trivial, (fun z => by cases z), trivial, trivial, trivial, trivial, trivial, ⟨_, rfl, lfRX8_22⟩, trivial, trivial, trivial, ⟨_, rfl, lfRX8_25⟩, trivial, trivial, trivial, trivial, trivial, trivial, trivial, trivial, ⟨_, rfl, lfRX8_31⟩, trivial, ⟨_, rfl, lfRX8_41⟩, trivial, trivial, trivial, (fun z => by cases z), trivial, trivial⟩
def tX8_taxOf : List mI := [(0, .aload_n 0, 1, 0, 0), (1, .getfield 35, 3, 8, 6), (4, .getfield 77, 3, 0, 4), (7, .ifCond .ne 12, 3, 0, 0), (10, .iload_n 1, 1, 0, 0), (11, .iconst 0, 1, 0, 0), (12, .sipush 999, 3, 0, 0), (15, .invokestatic 80, 3, 0, 0), (18, .ireturn, 1, 0, 0), (19, .aload_n 0, 1, 0, 0), (20, .iconst 0, 1, 0, 0), (21, .iconst 0, 1, 0, 0), (22, .aload_n 0, 1, 0, 0), (23, .getfield 22, 3, 8, 3), (26, .iload_n 2, 1, 0, 0), (27, .iaload, 1, 0, 0), (28, .iconst 0, 1, 0, 0), (29, .iload_n 1, 1, 0, 0), (30, .iload_n 3, 1, 0, 0), (31, .invokevirtual 84, 3, 0, 0), (34, .aload_n 0, 1, 0, 0), (35, .getfield 35, 3, 8, 6), (38, .aload_n 0, 1, 0, 0), (39, .getfield 41, 3, 8, 8), (42, .invokevirtual 88, 3, 0, 0), (45, .iconst 0, 1, 0, 0), (46, .sipush 999, 3, 0, 0), (49, .invokestatic 80, 3, 0, 0), (52, .ireturn, 1, 0, 0)]
set_option maxRecDepth 100000 in
theorem kX8_taxOf : mTok cX8_taxOf RX8 4 false tX8_taxOf := mTok_of (by decide +kernel) ⟨trivial, ⟨_, rfl, lfRX8_35⟩, ⟨_, rfl, lfRX8_77⟩, trivial, trivial, trivial, trivial, (fun z => by cases z), trivial, trivial, trivial, trivial, trivial, ⟨_, rfl, lfRX8_22⟩, trivial, trivial, trivial, trivial, trivial, trivial, trivial, ⟨_, rfl, lfRX8_35⟩, trivial, ⟨_, rfl, lfRX8_41⟩, trivial, trivial, trivial, (fun z => by cases z), trivial, trivial⟩
def tX8_passSummer : List mI := [(0, .iconst 0, 1, 0, 0), (1, .istore_n 2, 1, 0, 0), (2, .iload_n 2, 1, 0, 0), (3, .aload_n 0, 1, 0, 0), (4, .getfield 44, 3, 8, 9), (7, .if_icmp .ge 21, 3, 0, 0), (10, .aload_n 1, 1, 0, 0), (11, .bipush 10, 2, 0, 0), (13, .iload_n 2, 1, 0, 0), (14, .iadd, 1, 0, 0), (15, .aload_n 0, 1, 0, 0), (16, .aload_n 1, 1, 0, 0), (17, .iload_n 2, 1, 0, 0), (18, .invokevirtual 92, 3, 0, 0), (21, .iastore, 1, 0, 0), (22, .iinc 2 1, 3, 0, 0), (25, .goto (-23), 3, 0, 0), (28, .aload_n 1, 1, 0, 0), (29, .bipush 16, 2, 0, 0), (31, .aload_n 1, 1, 0, 0), (32, .bipush 16, 2, 0, 0), (34, .iaload, 1, 0, 0), (35, .sipush 137, 3, 0, 0), (38, .imul, 1, 0, 0), (39, .bipush 71, 2, 0, 0), (41, .iadd, 1, 0, 0), (42, .sipush 1000, 3, 0, 0), (45, .irem, 1, 0, 0), (46, .iastore, 1, 0, 0), (47, .aload_n 0, 1, 0, 0), (48, .aload_n 1, 1, 0, 0), (49, .invokevirtual 96, 3, 0, 0), (52, .aload_n 0, 1, 0, 0), (53, .getfield 38, 3, 8, 7), (56, .getfield 77, 3, 0, 4), (59, .ifCond .eq 25, 3, 0, 0), (62, .iconst 0, 1, 0, 0), (63, .istore_n 2, 1, 0, 0), (64, .iload_n 2, 1, 0, 0), (65, .aload_n 0, 1, 0, 0), (66, .getfield 44, 3, 8, 9), (69, .if_icmp .ge 15, 3, 0, 0), (72, .aload_n 0, 1, 0, 0), (73, .aload_n 1, 1, 0, 0), (74, .iload_n 2, 1, 0, 0), (75, .invokevirtual 100, 3, 0, 0), (78, .iinc 2 1, 3, 0, 0), (81, .goto (-17), 3, 0, 0), (84, .aload_n 1, 1, 0, 0), (85, .bipush 15, 2, 0, 0), (87, .dup2, 1, 0, 0), (88, .iaload, 1, 0, 0), (89, .iconst 1, 1, 0, 0), (90, .iadd, 1, 0, 0), (91, .iastore, 1, 0, 0), (92, .return_, 1, 0, 0)]
set_option maxRecDepth 100000 in
theorem kX8_passSummer : mTok cX8_passSummer RX8 3 false tX8_passSummer := mTok_of (by decide +kernel) ⟨trivial, trivial, trivial, trivial, ⟨_, rfl, lfRX8_44⟩, trivial, trivial, trivial, trivial, trivial, trivial, trivial, trivial, trivial, trivial, trivial, trivial, trivial, trivial, trivial, trivial, trivial, trivial, trivial, trivial, trivial, trivial, trivial, trivial, trivial, trivial, trivial, trivial, ⟨_, rfl, lfRX8_38⟩, ⟨_, rfl, lfRX8_77⟩, trivial, trivial, trivial, trivial, trivial, ⟨_, rfl, lfRX8_44⟩, trivial, trivial, trivial, trivial, trivial, trivial, trivial, trivial, trivial, trivial, trivial, trivial, trivial, trivial, trivial, trivial⟩
def tX8_sendMagpie : List mI := [(0, .aload_n 0, 1, 0, 0), (1, .getfield 44, 3, 8, 9), (4, .ifCond .le 37, 3, 0, 0), (7, .bipush 10, 2, 0, 0), (9, .aload_n 1, 1, 0, 0), (10, .bipush 16, 2, 0, 0), (12, .iaload, 1, 0, 0), (13, .aload_n 0, 1, 0, 0), (14, .getfield 44, 3, 8, 9), (17, .irem, 1, 0, 0), (18, .iadd, 1, 0, 0), (19, .istore_n 2, 1, 0, 0), (20, .aload_n 1, 1, 0, 0), (21, .iload_n 2, 1, 0, 0), (22, .dup2, 1, 0, 0), (23, .iaload, 1, 0, 0), (24, .aload_n 1, 1, 0, 0), (25, .iload_n 2, 1, 0, 0), (26, .iaload, 1, 0, 0), (27, .aload_n 1, 1, 0, 0), (28, .bipush 16, 2, 0, 0), (30, .iaload, 1, 0, 0), (31, .bipush 100, 2, 0, 0), (33, .idiv, 1, 0, 0), (34, .iconst 3, 1, 0, 0), (35, .irem, 1, 0, 0), (36, .invokestatic 103, 3, 0, 0), (39, .isub, 1, 0, 0), (40, .iastore, 1, 0, 0), (41, .return_, 1, 0, 0)]
set_option maxRecDepth 100000 in
theorem kX8_sendMagpie : mTok cX8_sendMagpie RX8 3 false tX8_sendMagpie := mTok_of (by decide +kernel) ⟨trivial, ⟨_, rfl, lfRX8_44⟩, trivial, trivial, trivial, trivial, trivial, trivial, ⟨_, rfl, lfRX8_44⟩, trivial, trivial, trivial, trivial, trivial, trivial, trivial, trivial, trivial, trivial, trivial, trivial, trivial, trivial, trivial, trivial, trivial, (fun z => by cases z), trivial, trivial, trivial, trivial⟩
def tX8_growHouse : List mI := [(0, .aload_n 1, 1, 0, 0), (1, .iconst 0, 1, 0, 0), (2, .iload_n 2, 1, 0, 0), (3, .iadd, 1, 0, 0), (4, .iaload, 1, 0, 0), (5, .istore_n 3, 1, 0, 0), (6, .aload_n 0, 1, 0, 0), (7, .iload_n 3, 1, 0, 0), (8, .aload_n 1, 1, 0, 0), (9, .iconst 5, 1, 0, 0), (10, .iload_n 2, 1, 0, 0), (11, .iadd, 1, 0, 0), (12, .iaload, 1, 0, 0), (13, .aload_n 0, 1, 0, 0), (14, .getfield 22, 3, 8, 3), (17, .iload_n 2, 1, 0, 0), (18, .iaload, 1, 0, 0), (19, .aload_n 0, 1, 0, 0), (20, .getfield 25, 3, 8, 4), (23, .iload_n 2, 1, 0, 0), (24, .iaload, 1, 0, 0), (25, .aload_n 1, 1, 0, 0), (26, .bipush 10, 2, 0, 0), (28, .iload_n 2, 1, 0, 0), (29, .iadd, 1, 0, 0), (30, .iaload, 1, 0, 0), (31, .aload_n 1, 1, 0, 0), (32, .bipush 15, 2, 0, 0), (34, .iaload, 1, 0, 0), (35, .invokevirtual 84, 3, 0, 0), (38, .aload_n 0, 1, 0, 0), (39, .getfield 38, 3, 8, 7), (42, .aload_n 0, 1, 0, 0), (43, .getfield 41, 3, 8, 8), (46, .invokevirtual 88, 3, 0, 0), (49, .bipush (-3), 2, 0, 0), (51, .iconst 3, 1, 0, 0), (52, .invokestatic 80, 3, 0, 0), (55, .istore 4, 2, 0, 0), (57, .aload_n 1, 1, 0, 0), (58, .iconst 0, 1, 0, 0), (59, .iload_n 2, 1, 0, 0), (60, .iadd, 1, 0, 0), (61, .iload_n 3, 1, 0, 0), (62, .iload 4, 2, 0, 0), (64, .iadd, 1, 0, 0), (65, .iconst 0, 1, 0, 0), (66, .bipush 7, 2, 0, 0), (68, .invokestatic 80, 3, 0, 0), (71, .iastore, 1, 0, 0), (72, .aload_n 1, 1, 0, 0), (73, .iconst 5, 1, 0, 0), (74, .iload_n 2, 1, 0, 0), (75, .iadd, 1, 0, 0), (76, .aload_n 1, 1, 0, 0), (77, .iconst 5, 1, 0, 0), (78, .iload_n 2, 1, 0, 0), (79, .iadd, 1, 0, 0), (80, .iaload, 1, 0, 0), (81, .aload_n 1, 1, 0, 0), (82, .iconst 0, 1, 0, 0), (83, .iload_n 2, 1, 0, 0), (84, .iadd, 1, 0, 0), (85, .iaload, 1, 0, 0), (86, .invokestatic 103, 3, 0, 0), (89, .iastore, 1, 0, 0), (90, .return_, 1, 0, 0)]
set_option maxRecDepth 100000 in
theorem kX8_growHouse : mTok cX8_growHouse RX8 5 false tX8_growHouse := mTok_of (by decide +kernel) ⟨trivial, trivial, trivial, trivial, trivial, trivial, trivial, trivial, trivial, trivial, trivial, trivial, trivial, trivial, ⟨_, rfl, lfRX8_22⟩, trivial, trivial, trivial, ⟨_, rfl, lfRX8_25⟩, trivial, trivial, trivial, trivial, trivial, trivial, trivial, trivial, trivial, trivial, trivial, trivial, ⟨_, rfl, lfRX8_38⟩, trivial, ⟨_, rfl, lfRX8_41⟩, trivial, trivial, trivial, (fun z => by cases z), trivial, trivial, trivial, trivial, trivial, trivial, trivial, trivial, trivial, trivial, (fun z => by cases z), trivial, trivial, trivial, trivial, trivial, trivial, trivial, trivial, trivial, trivial, trivial, trivial, trivial, trivial, trivial, (fun z => by cases z), trivial, trivial, trivial⟩
def tX8_setValues : List mI := [(0, .aload_n 0, 1, 0, 0), (1, .getfield 41, 3, 8, 8), (4, .iconst 0, 1, 0, 0), (5, .iload_n 1, 1, 0, 0), (6, .iastore, 1, 0, 0), (7, .aload_n 0, 1, 0, 0), (8, .getfield 41, 3, 8, 8), (11, .iconst 1, 1, 0, 0), (12, .iload_n 2, 1, 0, 0), (13, .iastore, 1, 0, 0), (14, .aload_n 0, 1, 0, 0), (15, .getfield 41, 3, 8, 8), (18, .iconst 2, 1, 0, 0), (19, .iload_n 3, 1, 0, 0), (20, .iastore, 1, 0, 0), (21, .aload_n 0, 1, 0, 0), (22, .getfield 41, 3, 8, 8), (25, .iconst 3, 1, 0, 0), (26, .iload 4, 2, 0, 0), (28, .iastore, 1, 0, 0), (29, .aload_n 0, 1, 0, 0), (30, .getfield 41, 3, 8, 8), (33, .iconst 4, 1, 0, 0), (34, .iload 5, 2, 0, 0), (36, .iastore, 1, 0, 0), (37, .aload_n 0, 1, 0, 0), (38, .getfield 41, 3, 8, 8), (41, .iconst 5, 1, 0, 0), (42, .iload 6, 2, 0, 0), (44, .iastore, 1, 0, 0), (45, .return_, 1, 0, 0)]
set_option maxRecDepth 100000 in
theorem kX8_setValues : mTok cX8_setValues RX8 7 false tX8_setValues := mTok_of (by decide +kernel) ⟨trivial, ⟨_, rfl, lfRX8_41⟩, trivial, trivial, trivial, trivial, ⟨_, rfl, lfRX8_41⟩, trivial, trivial, trivial, trivial, ⟨_, rfl, lfRX8_41⟩, trivial, trivial, trivial, trivial, ⟨_, rfl, lfRX8_41⟩, trivial, trivial, trivial, trivial, ⟨_, rfl, lfRX8_41⟩, trivial, trivial, trivial, trivial, ⟨_, rfl, lfRX8_41⟩, trivial, trivial, trivial, trivial, trivial⟩
def tX9_init : List mI := [(0, .aload_n 0, 1, 0, 0), (1, .invokespecial 3, 3, 0, 8888), (4, .aload_n 0, 1, 0, 0), (5, .bipush 32, 2, 0, 0), (7, .newarray .int, 2, 0, 0), (9, .putfield 9, 3, 9, 0), (12, .aload_n 0, 1, 0, 0), (13, .iconst 5, 1, 0, 0), (14, .bipush 16, 2, 0, 0), (16, .multianewarray 15 2, 4, 0, 0), (20, .putfield 17, 3, 9, 1), (23, .aload_n 0, 1, 0, 0), (24, .iconst 5, 1, 0, 0), (25, .newarray .int, 2, 0, 0), (27, .putfield 20, 3, 9, 2), (30, .return_, 1, 0, 0)]
set_option maxRecDepth 100000 in
theorem kX9_init : mTok cX9_init RX9 1 true tX9_init := mTok_of (by decide +kernel) ⟨trivial, (fun _ => lmRX9_3), trivial, trivial, ⟨la_int, by decide⟩, ⟨_, rfl, lfRX9_9, fun _ => rfl⟩, trivial, trivial, trivial, lnRX9_15, ⟨_, rfl, lfRX9_17, fun _ => rfl⟩, trivial, trivial, ⟨la_int, by decide⟩, ⟨_, rfl, lfRX9_20, fun _ => rfl⟩, trivial, trivial⟩
def tX9_list : List mI := [(0, .iconst 0, 1, 0, 0), (1, .istore_n 3, 1, 0, 0), (2, .iconst 0, 1, 0, 0), (3, .istore 4, 2, 0, 0), (5, .iload 4, 2, 0, 0), (7, .iload_n 2, 1, 0, 0), (8, .if_icmp .ge 83, 3, 0, 0), (11, .aload_n 0, 1, 0, 0), (12, .getfield 20, 3, 9, 2), (15, .iload 4, 2, 0, 0), (17, .iconst 0, 1, 0, 0), (18, .iastore, 1, 0, 0), (19, .iconst 0, 1, 0, 0), (20, .istore 5, 2, 0, 0), (22, .iload 5, 2, 0, 0), (24, .iconst 1, 1, 0, 0), (25, .iload 4, 2, 0, 0), (27, .ishl, 1, 0, 0), (28, .if_icmp .ge 57, 3, 0, 0), (31, .iload_n 1, 1, 0, 0), (32, .iload 5, 2, 0, 0), (34, .iconst 1, 1, 0, 0), (35, .iload 4, 2, 0, 0), (37, .ishl, 1, 0, 0), (38, .ior, 1, 0, 0), (39, .ishr, 1, 0, 0), (40, .iconst 1, 1, 0, 0), (41, .iand, 1, 0, 0), (42, .iconst 1, 1, 0, 0), (43, .if_icmp .ne 36, 3, 0, 0), (46, .aload_n 0, 1, 0, 0), (47, .getfield 17, 3, 9, 1), (50, .iload 4, 2, 0, 0), (52, .aaload, 1, 0, 0), (53, .aload_n 0, 1, 0, 0), (54, .getfield 20, 3, 9, 2), (57, .iload 4, 2, 0, 0), (59, .iaload, 1, 0, 0), (60, .iload 5, 2, 0, 0), (62, .iastore, 1, 0, 0), (63, .aload_n 0, 1, 0, 0), (64, .getfield 20, 3, 9, 2), (67, .iload 4, 2, 0, 0), (69, .dup2, 1, 0, 0), (70, .iaload, 1, 0, 0), (71, .iconst 1, 1, 0, 0), (72, .iadd, 1, 0, 0), (73, .iastore, 1, 0, 0), (74, .iload 4, 2, 0, 0), (76, .iconst 1, 1, 0, 0), (77, .iadd, 1, 0, 0), (78, .istore_n 3, 1, 0, 0), (79, .iinc 5 1, 3, 0, 0), (82, .goto (-60), 3, 0, 0), (85, .iinc 4 1, 3, 0, 0), (88, .goto (-83), 3, 0, 0), (91, .iload_n 3, 1, 0, 0), (92, .ireturn, 1, 0, 0)]
set_option maxRecDepth 100000 in
theorem kX9_list : mTok cX9_list RX9 6 false tX9_list := mTok_of (by decide +kernel) ⟨trivial, trivial, trivial, trivial, trivial, trivial, trivial, trivial, ⟨_, rfl, lfRX9_20⟩, trivial, trivial, trivial, trivial, trivial, trivial, trivial, trivial, trivial, trivial, trivial, trivial, trivial, trivial, trivial, trivial, trivial, trivial, trivial, trivial, trivial, trivial, ⟨_, rfl, lfRX9_17⟩, trivial, trivial, trivial, ⟨_, rfl, lfRX9_20⟩, trivial, trivial, trivial, trivial, trivial, ⟨_, rfl, lfRX9_20⟩, trivial, trivial, trivial, trivial, trivial, trivial, trivial, trivial, trivial, trivial, trivial, trivial, trivial, trivial, trivial, trivial, trivial⟩
def tX9_setHeads : List mI := [(0, .iconst 0, 1, 0, 0), (1, .istore_n 3, 1, 0, 0), (2, .iload_n 3, 1, 0, 0), (3, .iconst 1, 1, 0, 0), (4, .iload_n 1, 1, 0, 0), (5, .ishl, 1, 0, 0), (6, .if_icmp .ge 27, 3, 0, 0), (9, .aload_n 0, 1, 0, 0), (10, .getfield 9, 3, 9, 0), (13, .iload_n 3, 1, 0, 0), (14, .iconst 1, 1, 0, 0), (15, .iload_n 1, 1, 0, 0), (16, .ishl, 1, 0, 0), (17, .ior, 1, 0, 0), (18, .aload_n 0, 1, 0, 0), (19, .getfield 9, 3, 9, 0), (22, .iload_n 3, 1, 0, 0), (23, .iaload, 1, 0, 0), (24, .iload_n 2, 1, 0, 0), (25, .iadd, 1, 0, 0), (26, .iastore, 1, 0, 0), (27, .iinc 3 1, 3, 0, 0), (30, .goto (-28), 3, 0, 0), (33, .return_, 1, 0, 0)]
set_option maxRecDepth 100000 in
theorem kX9_setHeads : mTok cX9_setHeads RX9 4 false tX9_setHeads := mTok_of (by decide +kernel) ⟨trivial, trivial, trivial, trivial, trivial, trivial, trivial, trivial, ⟨_, rfl, lfRX9_9⟩, trivial, trivial, trivial, trivial, trivial, trivial, ⟨_, rfl, lfRX9_9⟩, trivial, trivial, trivial, trivial, trivial, trivial, trivial, trivial, trivial⟩
def tX10_init : List mI := [(0, .aload_n 0, 1, 0, 0), (1, .invokespecial 3, 3, 0, 8888), (4, .aload_n 0, 1, 0, 0), (5, .iconst 5, 1, 0, 0), (6, .bipush 8, 2, 0, 0), (8, .multianewarray 9 2, 4, 0, 0), (12, .putfield 11, 3, 10, 0), (15, .aload_n 0, 1, 0, 0), (16, .bipush 32, 2, 0, 0), (18, .newarray .int, 2, 0, 0), (20, .putfield 16, 3, 10, 1), (23, .aload_n 0, 1, 0, 0), (24, .bipush 32, 2, 0, 0), (26, .newarray .int, 2, 0, 0), (28, .putfield 20, 3, 10, 2), (31, .aload_n 0, 1, 0, 0), (32, .new 23, 3, 9, 0), (35, .dup, 1, 0, 0), (36, .invokespecial 25, 3, 0, 0), (39, .putfield 26, 3, 10, 3), (42, .aload_n 0, 1, 0, 0), (43, .sipush 4096, 3, 0, 0), (46, .newarray .int, 2, 0, 0), (48, .putfield 30, 3, 10, 4), (51, .aload_n 0, 1, 0, 0), (52, .sipush 4096, 3, 0, 0), (55, .newarray .int, 2, 0, 0), (57, .putfield 33, 3, 10, 5), (60, .return_, 1, 0, 0)]
set_option maxRecDepth 100000 in
theorem kX10_init : mTok cX10_init RX10 1 true tX10_init := mTok_of (by decide +kernel) ⟨trivial, (fun _ => lmRX10_3), trivial, trivial, trivial, lnRX10_9, ⟨_, rfl, lfRX10_11, fun _ => rfl⟩, trivial, trivial, ⟨la_int, by decide⟩, ⟨_, rfl, lfRX10_16, fun _ => rfl⟩, trivial, trivial, ⟨la_int, by decide⟩, ⟨_, rfl, lfRX10_20, fun _ => rfl⟩, trivial, ⟨_, rfl, lnRX10_23, ls_RX9, li_RX9⟩, trivial, (fun z => by cases z), ⟨_, rfl, lfRX10_26, fun _ => rfl⟩, trivial, trivial, ⟨la_int, by decide⟩, ⟨_, rfl, lfRX10_30, fun _ => rfl⟩, trivial, trivial, ⟨la_int, by decide⟩, ⟨_, rfl, lfRX10_33, fun _ => rfl⟩, trivial, trivial⟩
def tX10_forget : List mI := [(0, .aload_n 0, 1, 0, 0), (1, .iconst 0, 1, 0, 0), (2, .putfield 36, 3, 10, 14), (5, .return_, 1, 0, 0)]
set_option maxRecDepth 100000 in
theorem kX10_forget : mTok cX10_forget RX10 1 false tX10_forget := mTok_of (by decide +kernel) ⟨trivial, trivial, ⟨_, rfl, lfRX10_36, (fun z => by cases z)⟩, trivial, trivial⟩
def tX10_learn : List mI := [(0, .aload_n 0, 1, 0, 0), (1, .getfield 36, 3, 10, 14), (4, .ifCond .eq 20, 3, 0, 0), (7, .aload_n 0, 1, 0, 0), (8, .getfield 40, 3, 10, 10), (11, .iload_n 2, 1, 0, 0), (12, .if_icmp .ne 12, 3, 0, 0), (15, .aload_n 0, 1, 0, 0), (16, .getfield 44, 3, 10, 9), (19, .iload_n 3, 1, 0, 0), (20, .if_icmp .ne 4, 3, 0, 0), (23, .return_, 1, 0, 0), (24, .aload_n 0, 1, 0, 0), (25, .iconst 1, 1, 0, 0), (26, .putfield 36, 3, 10, 14), (29, .aload_n 0, 1, 0, 0), (30, .iload_n 2, 1, 0, 0), (31, .putfield 40, 3, 10, 10), (34, .aload_n 0, 1, 0, 0), (35, .iload_n 3, 1, 0, 0), (36, .putfield 44, 3, 10, 9), (39, .aload_n 0, 1, 0, 0), (40, .iconst (-1), 1, 0, 0), (41, .putfield 47, 3, 10, 11), (44, .aload_n 0, 1, 0, 0), (45, .aload_n 0, 1, 0, 0), (46, .getfield 26, 3, 10, 3), (49, .aload_n 0, 1, 0, 0), (50, .aload_n 1, 1, 0, 0), (51, .invokevirtual 50, 3, 0, 0), (54, .aload_n 0, 1, 0, 0), (55, .getfield 44, 3, 10, 9), (58, .invokevirtual 54, 3, 0, 0), (61, .putfield 58, 3, 10, 12), (64, .iconst 0, 1, 0, 0), (65, .istore 4, 2, 0, 0), (67, .iload 4, 2, 0, 0), (69, .iconst 5, 1, 0, 0), (70, .if_icmp .ge 20, 3, 0, 0), (73, .aload_n 0, 1, 0, 0), (74, .getfield 11, 3, 10, 0), (77, .iload 4, 2, 0, 0), (79, .aaload, 1, 0, 0), (80, .iconst 0, 1, 0, 0), (81, .invokestatic 61, 3, 0, 0), (84, .iinc 4 1, 3, 0, 0), (87, .goto (-20), 3, 0, 0), (90, .aload_n 0, 1, 0, 0), (91, .iconst 1, 1, 0, 0), (92, .iconst 3, 1, 0, 0), (93, .aload_n 0, 1, 0, 0), (94, .getfield 44, 3, 10, 9), (97, .aload_n 0, 1, 0, 0), (98, .getfield 58, 3, 10, 12), (101, .isub, 1, 0, 0), (102, .imul, 1, 0, 0), (103, .ishl, 1, 0, 0), (104, .putfield 67, 3, 10, 13), (107, .aload_n 0, 1, 0, 0), (108, .aload_n 0, 1, 0, 0), (109, .getfield 58, 3, 10, 12), (112, .ifCond .ne 10, 3, 0, 0), (115, .aload_n 0, 1, 0, 0), (116, .getfield 67, 3, 10, 13), (119, .goto 8, 3, 0, 0), (122, .aload_n 0, 1, 0, 0), (123, .iconst 0, 1, 0, 0), (124, .invokevirtual 70, 3, 0, 0), (127, .putfield 74, 3, 10, 8), (130, .aload_n 0, 1, 0, 0), (131, .getfield 58, 3, 10, 12), (134, .istore 4, 2, 0, 0), (136, .iload 4, 2, 0, 0), (138, .aload_n 0, 1, 0, 0), (139, .getfield 44, 3, 10, 9), (142, .if_icmp .ge 26, 3, 0, 0), (145, .aload_n 0, 1, 0, 0), (146, .getfield 11, 3, 10, 0), (149, .iload 4, 2, 0, 0), (151, .aaload, 1, 0, 0), (152, .aload_n 0, 1, 0, 0), (153, .getfield 74, 3, 10, 8), (156, .bipush 8, 2, 0, 0), (158, .idiv, 1, 0, 0), (159, .invokestatic 61, 3, 0, 0), (162, .iinc 4 1, 3, 0, 0), (165, .goto (-29), 3, 0, 0), (168, .return_, 1, 0, 0)]
set_option maxRecDepth 100000 in
theorem kX10_learn : mTok cX10_learn RX10 5 false tX10_learn := mTok_of (by decide +kernel) ⟨trivial, ⟨_, rfl, lfRX10_36⟩, trivial, trivial, ⟨_, rfl, lfRX10_40⟩, trivial, trivial, trivial, ⟨_, rfl, lfRX10_44⟩, trivial, trivial, trivial, trivial, trivial, ⟨_, rfl, lfRX10_36, (fun z => by cases z)⟩, trivial, trivial, ⟨_, rfl, lfRX10_40, (fun z => by cases z)⟩, trivial, trivial, ⟨_, rfl, lfRX10_44, (fun z => by cases z)⟩, trivial, trivial, ⟨_, rfl, lfRX10_47, (fun z => by cases z)⟩, trivial, trivial, ⟨_, rfl, lfRX10_26⟩, trivial, trivial, trivial, trivial, ⟨_, rfl, lfRX10_44⟩, trivial, ⟨_, rfl, lfRX10_58, (fun z => by cases z)⟩, trivial, trivial, trivial, trivial, trivial, trivial, ⟨_, rfl, lfRX10_11⟩, trivial, trivial, trivial, (fun z => by cases z), trivial, trivial, trivial, trivial, trivial, trivial, ⟨_, rfl, lfRX10_44⟩, trivial, ⟨_, rfl, lfRX10_58⟩, trivial, trivial, trivial, ⟨_, rfl, lfRX10_67, (fun z => by cases z)⟩, trivial, trivial, ⟨_, rfl, lfRX10_58⟩, trivial, trivial, ⟨_, rfl, lfRX10_67⟩, trivial, trivial, trivial, trivial, ⟨_, rfl, lfRX10_74, (fun z => by cases z)⟩, trivial, ⟨_, rfl, lfRX10_58⟩, trivial, trivial, trivial, ⟨_, rfl, lfRX10_44⟩, trivial, trivial, ⟨_, rfl, lfRX10_11⟩, trivial, trivial, trivial, ⟨_, rfl, lfRX10_74⟩, trivial, trivial, (fun z => by cases z), trivial, trivial, trivial, trivial⟩
def tX10_takeReports : List mI := [(0, .iconst 0, 1, 0, 0), (1, .istore_n 2, 1, 0, 0), (2, .aload_n 0, 1, 0, 0), (3, .getfield 16, 3, 10, 1), (6, .iconst 0, 1, 0, 0), (7, .invokestatic 61, 3, 0, 0), (10, .aload_n 0, 1, 0, 0), (11, .getfield 20, 3, 10, 2), (14, .bipush 35, 2, 0, 0), (16, .invokestatic 61, 3, 0, 0), (19, .iconst 0, 1, 0, 0), (20, .istore_n 3, 1, 0, 0), (21, .iload_n 3, 1, 0, 0), (22, .aload_n 1, 1, 0, 0), (23, .getfield 77, 3, 5, 5), (26, .if_icmp .ge 82, 3, 0, 0), (29, .aload_n 0, 1, 0, 0), (30, .getfield 40, 3, 10, 10), (33, .iload_n 3, 1, 0, 0), (34, .ishr, 1, 0, 0), (35, .iconst 1, 1, 0, 0), (36, .iand, 1, 0, 0), (37, .iconst 1, 1, 0, 0), (38, .if_icmp .ne 64, 3, 0, 0), (41, .aload_n 1, 1, 0, 0), (42, .getfield 82, 3, 5, 0), (45, .iload_n 3, 1, 0, 0), (46, .iaload, 1, 0, 0), (47, .istore 4, 2, 0, 0), (49, .aload_n 0, 1, 0, 0), (50, .getfield 16, 3, 10, 1), (53, .iload 4, 2, 0, 0), (55, .aload_n 0, 1, 0, 0), (56, .getfield 16, 3, 10, 1), (59, .iload 4, 2, 0, 0), (61, .iaload, 1, 0, 0), (62, .aload_n 1, 1, 0, 0), (63, .getfield 85, 3, 5, 1), (66, .iload_n 3, 1, 0, 0), (67, .iaload, 1, 0, 0), (68, .invokestatic 88, 3, 0, 0), (71, .iastore, 1, 0, 0), (72, .aload_n 0, 1, 0, 0), (73, .getfield 20, 3, 10, 2), (76, .iload 4, 2, 0, 0), (78, .aload_n 0, 1, 0, 0), (79, .getfield 20, 3, 10, 2), (82, .iload 4, 2, 0, 0), (84, .iaload, 1, 0, 0), (85, .aload_n 1, 1, 0, 0), (86, .getfield 93, 3, 5, 2), (89, .iload_n 3, 1, 0, 0), (90, .iaload, 1, 0, 0), (91, .invokestatic 96, 3, 0, 0), (94, .iastore, 1, 0, 0), (95, .iload_n 2, 1, 0, 0), (96, .iconst 1, 1, 0, 0), (97, .iload 4, 2, 0, 0), (99, .ishl, 1, 0, 0), (100, .ior, 1, 0, 0), (101, .istore_n 2, 1, 0, 0), (102, .iinc 3 1, 3, 0, 0), (105, .goto (-84), 3, 0, 0), (108, .iload_n 2, 1, 0, 0), (109, .ireturn, 1, 0, 0)]
set_option maxRecDepth 100000 in
theorem kX10_takeReports : mTok cX10_takeReports RX10 5 false tX10_takeReports := mTok_of (by decide +kernel) ⟨trivial, trivial, trivial, ⟨_, rfl, lfRX10_16⟩, trivial, (fun z => by cases z), trivial, ⟨_, rfl, lfRX10_20⟩, trivial, (fun z => by cases z), trivial, trivial, trivial, trivial, ⟨_, rfl, lfRX10_77⟩, trivial, trivial, ⟨_, rfl, lfRX10_40⟩, trivial, trivial, trivial, trivial, trivial, trivial, trivial, ⟨_, rfl, lfRX10_82⟩, trivial, trivial, trivial, trivial, ⟨_, rfl, lfRX10_16⟩, trivial, trivial, ⟨_, rfl, lfRX10_16⟩, trivial, trivial, trivial, ⟨_, rfl, lfRX10_85⟩, trivial, trivial, (fun z => by cases z), trivial, trivial, ⟨_, rfl, lfRX10_20⟩, trivial, trivial, ⟨_, rfl, lfRX10_20⟩, trivial, trivial, trivial, ⟨_, rfl, lfRX10_93⟩, trivial, trivial, (fun z => by cases z), trivial, trivial, trivial, trivial, trivial, trivial, trivial, trivial, trivial, trivial, trivial, trivial⟩
def tX10_countFrom : List mI := [(0, .iconst 0, 1, 0, 0), (1, .istore_n 2, 1, 0, 0), (2, .aload_n 0, 1, 0, 0), (3, .getfield 11, 3, 10, 0), (6, .iload_n 1, 1, 0, 0), (7, .aaload, 1, 0, 0), (8, .astore_n 3, 1, 0, 0), (9, .aload_n 0, 1, 0, 0), (10, .iload_n 1, 1, 0, 0), (11, .invokevirtual 99, 3, 0, 0), (14, .istore 4, 2, 0, 0), (16, .aload_n 0, 1, 0, 0), (17, .iload_n 1, 1, 0, 0), (18, .invokevirtual 102, 3, 0, 0), (21, .istore 5, 2, 0, 0), (23, .iload 5, 2, 0, 0), (25, .iload 4, 2, 0, 0), (27, .if_icmp .gt 58, 3, 0, 0), (30, .aload_n 0, 1, 0, 0), (31, .getfield 67, 3, 10, 13), (34, .istore 6, 2, 0, 0), (36, .iload_n 1, 1, 0, 0), (37, .iconst 1, 1, 0, 0), (38, .iadd, 1, 0, 0), (39, .aload_n 0, 1, 0, 0), (40, .getfield 58, 3, 10, 12), (43, .if_icmp .ge 22, 3, 0, 0), (46, .aload_n 0, 1, 0, 0), (47, .getfield 26, 3, 10, 3), (50, .iload_n 1, 1, 0, 0), (51, .iload 5, 2, 0, 0), (53, .invokevirtual 105, 3, 0, 0), (56, .aload_n 0, 1, 0, 0), (57, .iload_n 1, 1, 0, 0), (58, .iconst 1, 1, 0, 0), (59, .iadd, 1, 0, 0), (60, .invokevirtual 70, 3, 0, 0), (63, .istore 6, 2, 0, 0), (65, .aload_n 3, 1, 0, 0), (66, .iload 5, 2, 0, 0), (68, .dup2, 1, 0, 0), (69, .iaload, 1, 0, 0), (70, .iload 6, 2, 0, 0), (72, .iadd, 1, 0, 0), (73, .iastore, 1, 0, 0), (74, .iload_n 2, 1, 0, 0), (75, .iload 6, 2, 0, 0), (77, .iadd, 1, 0, 0), (78, .istore_n 2, 1, 0, 0), (79, .iinc 5 1, 3, 0, 0), (82, .goto (-59), 3, 0, 0), (85, .iload_n 2, 1, 0, 0), (86, .ireturn, 1, 0, 0)]
set_option maxRecDepth 100000 in
theorem kX10_countFrom : mTok cX10_countFrom RX10 7 false tX10_countFrom := mTok_of (by decide +kernel) ⟨trivial, trivial, trivial, ⟨_, rfl, lfRX10_11⟩, trivial, trivial, trivial, trivial, trivial, trivial, trivial, trivial, trivial, trivial, trivial, trivial, trivial, trivial, trivial, ⟨_, rfl, lfRX10_67⟩, trivial, trivial, trivial, trivial, trivial, ⟨_, rfl, lfRX10_58⟩, trivial, trivial, ⟨_, rfl, lfRX10_26⟩, trivial, trivial, trivial, trivial, trivial, trivial, trivial, trivial, trivial, trivial, trivial, trivial, trivial, trivial, trivial, trivial, trivial, trivial, trivial, trivial, trivial, trivial, trivial, trivial, trivial⟩
def tX10_lowest : List mI := [(0, .iconst 0, 1, 0, 0), (1, .istore_n 2, 1, 0, 0), (2, .iconst 0, 1, 0, 0), (3, .istore_n 3, 1, 0, 0), (4, .iload_n 3, 1, 0, 0), (5, .aload_n 0, 1, 0, 0), (6, .getfield 26, 3, 10, 3), (9, .getfield 109, 3, 9, 2), (12, .iload_n 1, 1, 0, 0), (13, .iaload, 1, 0, 0), (14, .if_icmp .ge 49, 3, 0, 0), (17, .aload_n 0, 1, 0, 0), (18, .getfield 26, 3, 10, 3), (21, .getfield 112, 3, 9, 1), (24, .iload_n 1, 1, 0, 0), (25, .aaload, 1, 0, 0), (26, .iload_n 3, 1, 0, 0), (27, .iaload, 1, 0, 0), (28, .istore 4, 2, 0, 0), (30, .iload_n 2, 1, 0, 0), (31, .aload_n 0, 1, 0, 0), (32, .getfield 16, 3, 10, 1), (35, .iload 4, 2, 0, 0), (37, .iconst 1, 1, 0, 0), (38, .iload_n 1, 1, 0, 0), (39, .ishl, 1, 0, 0), (40, .ior, 1, 0, 0), (41, .iaload, 1, 0, 0), (42, .aload_n 0, 1, 0, 0), (43, .getfield 26, 3, 10, 3), (46, .getfield 115, 3, 9, 0), (49, .iload 4, 2, 0, 0), (51, .iaload, 1, 0, 0), (52, .isub, 1, 0, 0), (53, .invokestatic 88, 3, 0, 0), (56, .istore_n 2, 1, 0, 0), (57, .iinc 3 1, 3, 0, 0), (60, .goto (-56), 3, 0, 0), (63, .iload_n 2, 1, 0, 0), (64, .ireturn, 1, 0, 0)]
set_option maxRecDepth 100000 in
theorem kX10_lowest : mTok cX10_lowest RX10 5 false tX10_lowest := mTok_of (by decide +kernel) ⟨trivial, trivial, trivial, trivial, trivial, trivial, ⟨_, rfl, lfRX10_26⟩, ⟨_, rfl, lfRX10_109⟩, trivial, trivial, trivial, trivial, ⟨_, rfl, lfRX10_26⟩, ⟨_, rfl, lfRX10_112⟩, trivial, trivial, trivial, trivial, trivial, trivial, trivial, ⟨_, rfl, lfRX10_16⟩, trivial, trivial, trivial, trivial, trivial, trivial, trivial, ⟨_, rfl, lfRX10_26⟩, ⟨_, rfl, lfRX10_115⟩, trivial, trivial, trivial, (fun z => by cases z), trivial, trivial, trivial, trivial, trivial, trivial⟩
def tX10_highest : List mI := [(0, .bipush 7, 2, 0, 0), (2, .istore_n 2, 1, 0, 0), (3, .iconst 0, 1, 0, 0), (4, .istore_n 3, 1, 0, 0), (5, .iload_n 3, 1, 0, 0), (6, .aload_n 0, 1, 0, 0), (7, .getfield 26, 3, 10, 3), (10, .getfield 109, 3, 9, 2), (13, .iload_n 1, 1, 0, 0), (14, .iaload, 1, 0, 0), (15, .if_icmp .ge 49, 3, 0, 0), (18, .aload_n 0, 1, 0, 0), (19, .getfield 26, 3, 10, 3), (22, .getfield 112, 3, 9, 1), (25, .iload_n 1, 1, 0, 0), (26, .aaload, 1, 0, 0), (27, .iload_n 3, 1, 0, 0), (28, .iaload, 1, 0, 0), (29, .istore 4, 2, 0, 0), (31, .iload_n 2, 1, 0, 0), (32, .aload_n 0, 1, 0, 0), (33, .getfield 20, 3, 10, 2), (36, .iload 4, 2, 0, 0), (38, .iconst 1, 1, 0, 0), (39, .iload_n 1, 1, 0, 0), (40, .ishl, 1, 0, 0), (41, .ior, 1, 0, 0), (42, .iaload, 1, 0, 0), (43, .aload_n 0, 1, 0, 0), (44, .getfield 26, 3, 10, 3), (47, .getfield 115, 3, 9, 0), (50, .iload 4, 2, 0, 0), (52, .iaload, 1, 0, 0), (53, .isub, 1, 0, 0), (54, .invokestatic 96, 3, 0, 0), (57, .istore_n 2, 1, 0, 0), (58, .iinc 3 1, 3, 0, 0), (61, .goto (-56), 3, 0, 0), (64, .iload_n 2, 1, 0, 0), (65, .ireturn, 1, 0, 0)]
set_option maxRecDepth 100000 in
theorem kX10_highest : mTok cX10_highest RX10 5 false tX10_highest := mTok_of (by decide +kernel) ⟨trivial, trivial, trivial, trivial, trivial, trivial, ⟨_, rfl, lfRX10_26⟩, ⟨_, rfl, lfRX10_109⟩, trivial, trivial, trivial, trivial, ⟨_, rfl, lfRX10_26⟩, ⟨_, rfl, lfRX10_112⟩, trivial, trivial, trivial, trivial, trivial, trivial, trivial, ⟨_, rfl, lfRX10_20⟩, trivial, trivial, trivial, trivial, trivial, trivial, trivial, ⟨_, rfl, lfRX10_26⟩, ⟨_, rfl, lfRX10_115⟩, trivial, trivial, trivial, (fun z => by cases z), trivial, trivial, trivial, trivial, trivial, trivial⟩
def tX10_fewestIn : List mI := [(0, .iconst 0, 1, 0, 0), (1, .istore_n 2, 1, 0, 0), (2, .iload_n 2, 1, 0, 0), (3, .bipush 7, 2, 0, 0), (5, .if_icmp .gt 22, 3, 0, 0), (8, .aload_n 0, 1, 0, 0), (9, .getfield 11, 3, 10, 0), (12, .iload_n 1, 1, 0, 0), (13, .aaload, 1, 0, 0), (14, .iload_n 2, 1, 0, 0), (15, .iaload, 1, 0, 0), (16, .ifCond .le 5, 3, 0, 0), (19, .iload_n 2, 1, 0, 0), (20, .ireturn, 1, 0, 0), (21, .iinc 2 1, 3, 0, 0), (24, .goto (-22), 3, 0, 0), (27, .iconst (-1), 1, 0, 0), (28, .ireturn, 1, 0, 0)]
set_option maxRecDepth 100000 in
theorem kX10_fewestIn : mTok cX10_fewestIn RX10 3 false tX10_fewestIn := mTok_of (by decide +kernel) ⟨trivial, trivial, trivial, trivial, trivial, trivial, ⟨_, rfl, lfRX10_11⟩, trivial, trivial, trivial, trivial, trivial, trivial, trivial, trivial, trivial, trivial, trivial, trivial⟩
def tX10_mostIn : List mI := [(0, .bipush 7, 2, 0, 0), (2, .istore_n 2, 1, 0, 0), (3, .iload_n 2, 1, 0, 0), (4, .ifCond .lt 22, 3, 0, 0), (7, .aload_n 0, 1, 0, 0), (8, .getfield 11, 3, 10, 0), (11, .iload_n 1, 1, 0, 0), (12, .aaload, 1, 0, 0), (13, .iload_n 2, 1, 0, 0), (14, .iaload, 1, 0, 0), (15, .ifCond .le 5, 3, 0, 0), (18, .iload_n 2, 1, 0, 0), (19, .ireturn, 1, 0, 0), (20, .iinc 2 (-1), 3, 0, 0), (23, .goto (-20), 3, 0, 0), (26, .iconst (-1), 1, 0, 0), (27, .ireturn, 1, 0, 0)]
set_option maxRecDepth 100000 in
theorem kX10_mostIn : mTok cX10_mostIn RX10 3 false tX10_mostIn := mTok_of (by decide +kernel) ⟨trivial, trivial, trivial, trivial, trivial, ⟨_, rfl, lfRX10_11⟩, trivial, trivial, trivial, trivial, trivial, trivial, trivial, trivial, trivial, trivial, trivial, trivial⟩
def tX10_leftBySeeing : List mI := [(0, .iconst 0, 1, 0, 0), (1, .istore_n 2, 1, 0, 0), (2, .iconst 0, 1, 0, 0), (3, .istore_n 3, 1, 0, 0), (4, .iload_n 3, 1, 0, 0), (5, .bipush 7, 2, 0, 0), (7, .if_icmp .gt 22, 3, 0, 0), (10, .iload_n 2, 1, 0, 0), (11, .aload_n 0, 1, 0, 0), (12, .getfield 11, 3, 10, 0), (15, .iload_n 1, 1, 0, 0), (16, .aaload, 1, 0, 0), (17, .iload_n 3, 1, 0, 0), (18, .iaload, 1, 0, 0), (19, .invokestatic 88, 3, 0, 0), (22, .istore_n 2, 1, 0, 0), (23, .iinc 3 1, 3, 0, 0), (26, .goto (-22), 3, 0, 0), (29, .iload_n 2, 1, 0, 0), (30, .ireturn, 1, 0, 0)]
set_option maxRecDepth 100000 in
theorem kX10_leftBySeeing : mTok cX10_leftBySeeing RX10 4 false tX10_leftBySeeing := mTok_of (by decide +kernel) ⟨trivial, trivial, trivial, trivial, trivial, trivial, trivial, trivial, trivial, ⟨_, rfl, lfRX10_11⟩, trivial, trivial, trivial, trivial, (fun z => by cases z), trivial, trivial, trivial, trivial, trivial, trivial⟩
def tX10_bestToSee : List mI := [(0, .iconst 0, 1, 0, 0), (1, .istore_n 1, 1, 0, 0), (2, .iconst 1, 1, 0, 0), (3, .istore_n 2, 1, 0, 0), (4, .iload_n 2, 1, 0, 0), (5, .aload_n 0, 1, 0, 0), (6, .getfield 44, 3, 10, 9), (9, .if_icmp .ge 24, 3, 0, 0), (12, .aload_n 0, 1, 0, 0), (13, .iload_n 2, 1, 0, 0), (14, .invokevirtual 118, 3, 0, 0), (17, .aload_n 0, 1, 0, 0), (18, .iload_n 1, 1, 0, 0), (19, .invokevirtual 118, 3, 0, 0), (22, .if_icmp .ge 5, 3, 0, 0), (25, .iload_n 2, 1, 0, 0), (26, .istore_n 1, 1, 0, 0), (27, .iinc 2 1, 3, 0, 0), (30, .goto (-26), 3, 0, 0), (33, .iload_n 1, 1, 0, 0), (34, .ireturn, 1, 0, 0)]
set_option maxRecDepth 100000 in
theorem kX10_bestToSee : mTok cX10_bestToSee RX10 3 false tX10_bestToSee := mTok_of (by decide +kernel) ⟨trivial, trivial, trivial, trivial, trivial, trivial, ⟨_, rfl, lfRX10_44⟩, trivial, trivial, trivial, trivial, trivial, trivial, trivial, trivial, trivial, trivial, trivial, trivial, trivial, trivial, trivial⟩
def tX10_tellingSet : List mI := [(0, .aload_n 0, 1, 0, 0), (1, .getfield 47, 3, 10, 11), (4, .iconst (-1), 1, 0, 0), (5, .if_icmp .ne 11, 3, 0, 0), (8, .aload_n 0, 1, 0, 0), (9, .aload_n 0, 1, 0, 0), (10, .invokevirtual 121, 3, 0, 0), (13, .putfield 47, 3, 10, 11), (16, .aload_n 0, 1, 0, 0), (17, .getfield 47, 3, 10, 11), (20, .ireturn, 1, 0, 0)]
set_option maxRecDepth 100000 in
theorem kX10_tellingSet : mTok cX10_tellingSet RX10 1 false tX10_tellingSet := mTok_of (by decide +kernel) ⟨trivial, ⟨_, rfl, lfRX10_47⟩, trivial, trivial, trivial, trivial, trivial, ⟨_, rfl, lfRX10_47, (fun z => by cases z)⟩, trivial, ⟨_, rfl, lfRX10_47⟩, trivial, trivial⟩
def tX10_findTelling : List mI := [(0, .iconst 1, 1, 0, 0), (1, .aload_n 0, 1, 0, 0), (2, .getfield 44, 3, 10, 9), (5, .ishl, 1, 0, 0), (6, .iconst 1, 1, 0, 0), (7, .isub, 1, 0, 0), (8, .istore_n 1, 1, 0, 0), (9, .aload_n 0, 1, 0, 0), (10, .getfield 44, 3, 10, 9), (13, .ifCond .eq 20, 3, 0, 0), (16, .aload_n 0, 1, 0, 0), (17, .getfield 74, 3, 10, 8), (20, .iconst 1, 1, 0, 0), (21, .iconst 3, 1, 0, 0), (22, .aload_n 0, 1, 0, 0), (23, .getfield 44, 3, 10, 9), (26, .iconst 1, 1, 0, 0), (27, .isub, 1, 0, 0), (28, .imul, 1, 0, 0), (29, .ishl, 1, 0, 0), (30, .if_icmp .le 5, 3, 0, 0), (33, .iload_n 1, 1, 0, 0), (34, .ireturn, 1, 0, 0), (35, .aload_n 0, 1, 0, 0), (36, .iconst 0, 1, 0, 0), (37, .putfield 125, 3, 10, 6), (40, .aload_n 0, 1, 0, 0), (41, .iconst 0, 1, 0, 0), (42, .iconst 0, 1, 0, 0), (43, .invokevirtual 128, 3, 0, 0), (46, .iconst 0, 1, 0, 0), (47, .istore_n 2, 1, 0, 0), (48, .iload_n 2, 1, 0, 0), (49, .aload_n 0, 1, 0, 0), (50, .getfield 44, 3, 10, 9), (53, .if_icmp .ge 52, 3, 0, 0), (56, .iconst 0, 1, 0, 0), (57, .istore_n 3, 1, 0, 0), (58, .iload_n 3, 1, 0, 0), (59, .iload_n 1, 1, 0, 0), (60, .if_icmp .ge 39, 3, 0, 0), (63, .aload_n 0, 1, 0, 0), (64, .getfield 74, 3, 10, 8), (67, .iconst 1, 1, 0, 0), (68, .iconst 3, 1, 0, 0), (69, .iload_n 2, 1, 0, 0), (70, .imul, 1, 0, 0), (71, .ishl, 1, 0, 0), (72, .if_icmp .gt 27, 3, 0, 0), (75, .iload_n 3, 1, 0, 0), (76, .invokestatic 131, 3, 0, 0), (79, .iload_n 2, 1, 0, 0), (80, .if_icmp .ne 13, 3, 0, 0), (83, .aload_n 0, 1, 0, 0), (84, .iload_n 3, 1, 0, 0), (85, .invokevirtual 136, 3, 0, 0), (88, .ifCond .eq 5, 3, 0, 0), (91, .iload_n 3, 1, 0, 0), (92, .ireturn, 1, 0, 0), (93, .iinc 3 1, 3, 0, 0), (96, .goto (-38), 3, 0, 0), (99, .iinc 2 1, 3, 0, 0), (102, .goto (-54), 3, 0, 0), (105, .iload_n 1, 1, 0, 0), (106, .ireturn, 1, 0, 0)]
set_option maxRecDepth 100000 in
theorem kX10_findTelling : mTok cX10_findTelling RX10 4 false tX10_findTelling := mTok_of (by decide +kernel) ⟨trivial, trivial, ⟨_, rfl, lfRX10_44⟩, trivial, trivial, trivial, trivial, trivial, ⟨_, rfl, lfRX10_44⟩, trivial, trivial, ⟨_, rfl, lfRX10_74⟩, trivial, trivial, trivial, ⟨_, rfl, lfRX10_44⟩, trivial, trivial, trivial, trivial, trivial, trivial, trivial, trivial, trivial, ⟨_, rfl, lfRX10_125, (fun z => by cases z)⟩, trivial, trivial, trivial, trivial, trivial, trivial, trivial, trivial, ⟨_, rfl, lfRX10_44⟩, trivial, trivial, trivial, trivial, trivial, trivial, trivial, ⟨_, rfl, lfRX10_74⟩, trivial, trivial, trivial, trivial, trivial, trivial, trivial, (fun z => by cases z), trivial, trivial, trivial, trivial, trivial, trivial, trivial, trivial, trivial, trivial, trivial, trivial, trivial, trivial, trivial⟩
def tX10_gatherFrom : List mI := [(0, .iload_n 1, 1, 0, 0), (1, .aload_n 0, 1, 0, 0), (2, .getfield 44, 3, 10, 9), (5, .if_icmp .lt 34, 3, 0, 0), (8, .aload_n 0, 1, 0, 0), (9, .getfield 125, 3, 10, 6), (12, .sipush 4096, 3, 0, 0), (15, .if_icmp .ge 23, 3, 0, 0), (18, .aload_n 0, 1, 0, 0), (19, .getfield 30, 3, 10, 4), (22, .aload_n 0, 1, 0, 0), (23, .getfield 125, 3, 10, 6), (26, .iload_n 2, 1, 0, 0), (27, .iastore, 1, 0, 0), (28, .aload_n 0, 1, 0, 0), (29, .dup, 1, 0, 0), (30, .getfield 125, 3, 10, 6), (33, .iconst 1, 1, 0, 0), (34, .iadd, 1, 0, 0), (35, .putfield 125, 3, 10, 6), (38, .return_, 1, 0, 0), (39, .aload_n 0, 1, 0, 0), (40, .iload_n 1, 1, 0, 0), (41, .invokevirtual 99, 3, 0, 0), (44, .istore_n 3, 1, 0, 0), (45, .aload_n 0, 1, 0, 0), (46, .iload_n 1, 1, 0, 0), (47, .invokevirtual 102, 3, 0, 0), (50, .istore 4, 2, 0, 0), (52, .iload 4, 2, 0, 0), (54, .iload_n 3, 1, 0, 0), (55, .if_icmp .gt 44, 3, 0, 0), (58, .iload_n 1, 1, 0, 0), (59, .iconst 1, 1, 0, 0), (60, .iadd, 1, 0, 0), (61, .aload_n 0, 1, 0, 0), (62, .getfield 58, 3, 10, 12), (65, .if_icmp .ge 13, 3, 0, 0), (68, .aload_n 0, 1, 0, 0), (69, .getfield 26, 3, 10, 3), (72, .iload_n 1, 1, 0, 0), (73, .iload 4, 2, 0, 0), (75, .invokevirtual 105, 3, 0, 0), (78, .aload_n 0, 1, 0, 0), (79, .iload_n 1, 1, 0, 0), (80, .iconst 1, 1, 0, 0), (81, .iadd, 1, 0, 0), (82, .iload_n 2, 1, 0, 0), (83, .iload 4, 2, 0, 0), (85, .iconst 3, 1, 0, 0), (86, .iload_n 1, 1, 0, 0), (87, .imul, 1, 0, 0), (88, .ishl, 1, 0, 0), (89, .ior, 1, 0, 0), (90, .invokevirtual 128, 3, 0, 0), (93, .iinc 4 1, 3, 0, 0), (96, .goto (-44), 3, 0, 0), (99, .return_, 1, 0, 0)]
set_option maxRecDepth 100000 in
theorem kX10_gatherFrom : mTok cX10_gatherFrom RX10 5 false tX10_gatherFrom := mTok_of (by decide +kernel) ⟨trivial, trivial, ⟨_, rfl, lfRX10_44⟩, trivial, trivial, ⟨_, rfl, lfRX10_125⟩, trivial, trivial, trivial, ⟨_, rfl, lfRX10_30⟩, trivial, ⟨_, rfl, lfRX10_125⟩, trivial, trivial, trivial, trivial, ⟨_, rfl, lfRX10_125⟩, trivial, trivial, ⟨_, rfl, lfRX10_125, (fun z => by cases z)⟩, trivial, trivial, trivial, trivial, trivial, trivial, trivial, trivial, trivial, trivial, trivial, trivial, trivial, trivial, trivial, trivial, ⟨_, rfl, lfRX10_58⟩, trivial, trivial, ⟨_, rfl, lfRX10_26⟩, trivial, trivial, trivial, trivial, trivial, trivial, trivial, trivial, trivial, trivial, trivial, trivial, trivial, trivial, trivial, trivial, trivial, trivial, trivial⟩
def tX10_tellsApart : List mI := [(0, .aload_n 0, 1, 0, 0), (1, .dup, 1, 0, 0), (2, .getfield 140, 3, 10, 7), (5, .iconst 1, 1, 0, 0), (6, .iadd, 1, 0, 0), (7, .putfield 140, 3, 10, 7), (10, .iconst 0, 1, 0, 0), (11, .istore_n 2, 1, 0, 0), (12, .iload_n 2, 1, 0, 0), (13, .aload_n 0, 1, 0, 0), (14, .getfield 125, 3, 10, 6), (17, .if_icmp .ge 46, 3, 0, 0), (20, .aload_n 0, 1, 0, 0), (21, .aload_n 0, 1, 0, 0), (22, .getfield 30, 3, 10, 4), (25, .iload_n 2, 1, 0, 0), (26, .iaload, 1, 0, 0), (27, .iload_n 1, 1, 0, 0), (28, .invokevirtual 143, 3, 0, 0), (31, .istore_n 3, 1, 0, 0), (32, .aload_n 0, 1, 0, 0), (33, .getfield 33, 3, 10, 5), (36, .iload_n 3, 1, 0, 0), (37, .iaload, 1, 0, 0), (38, .aload_n 0, 1, 0, 0), (39, .getfield 140, 3, 10, 7), (42, .if_icmp .ne 5, 3, 0, 0), (45, .iconst 0, 1, 0, 0), (46, .ireturn, 1, 0, 0), (47, .aload_n 0, 1, 0, 0), (48, .getfield 33, 3, 10, 5), (51, .iload_n 3, 1, 0, 0), (52, .aload_n 0, 1, 0, 0), (53, .getfield 140, 3, 10, 7), (56, .iastore, 1, 0, 0), (57, .iinc 2 1, 3, 0, 0), (60, .goto (-48), 3, 0, 0), (63, .iconst 1, 1, 0, 0), (64, .ireturn, 1, 0, 0)]
set_option maxRecDepth 100000 in
theorem kX10_tellsApart : mTok cX10_tellsApart RX10 4 false tX10_tellsApart := mTok_of (by decide +kernel) ⟨trivial, trivial, ⟨_, rfl, lfRX10_140⟩, trivial, trivial, ⟨_, rfl, lfRX10_140, (fun z => by cases z)⟩, trivial, trivial, trivial, trivial, ⟨_, rfl, lfRX10_125⟩, trivial, trivial, trivial, ⟨_, rfl, lfRX10_30⟩, trivial, trivial, trivial, trivial, trivial, trivial, ⟨_, rfl, lfRX10_33⟩, trivial, trivial, trivial, ⟨_, rfl, lfRX10_140⟩, trivial, trivial, trivial, trivial, ⟨_, rfl, lfRX10_33⟩, trivial, trivial, ⟨_, rfl, lfRX10_140⟩, trivial, trivial, trivial, trivial, trivial, trivial⟩
def tX10_partOf : List mI := [(0, .iconst 0, 1, 0, 0), (1, .istore_n 3, 1, 0, 0), (2, .iconst 0, 1, 0, 0), (3, .istore 4, 2, 0, 0), (5, .iload 4, 2, 0, 0), (7, .aload_n 0, 1, 0, 0), (8, .getfield 44, 3, 10, 9), (11, .if_icmp .ge 33, 3, 0, 0), (14, .iload_n 2, 1, 0, 0), (15, .iload 4, 2, 0, 0), (17, .ishr, 1, 0, 0), (18, .iconst 1, 1, 0, 0), (19, .iand, 1, 0, 0), (20, .iconst 1, 1, 0, 0), (21, .if_icmp .ne 17, 3, 0, 0), (24, .iload_n 3, 1, 0, 0), (25, .iconst 3, 1, 0, 0), (26, .ishl, 1, 0, 0), (27, .iload_n 1, 1, 0, 0), (28, .iconst 3, 1, 0, 0), (29, .iload 4, 2, 0, 0), (31, .imul, 1, 0, 0), (32, .ishr, 1, 0, 0), (33, .bipush 7, 2, 0, 0), (35, .iand, 1, 0, 0), (36, .ior, 1, 0, 0), (37, .istore_n 3, 1, 0, 0), (38, .iinc 4 1, 3, 0, 0), (41, .goto (-36), 3, 0, 0), (44, .iload_n 3, 1, 0, 0), (45, .sipush 4095, 3, 0, 0), (48, .iand, 1, 0, 0), (49, .ireturn, 1, 0, 0)]
set_option maxRecDepth 100000 in
theorem kX10_partOf : mTok cX10_partOf RX10 5 false tX10_partOf := mTok_of (by decide +kernel) ⟨trivial, trivial, trivial, trivial, trivial, trivial, ⟨_, rfl, lfRX10_44⟩, trivial, trivial, trivial, trivial, trivial, trivial, trivial, trivial, trivial, trivial, trivial, trivial, trivial, trivial, trivial, trivial, trivial, trivial, trivial, trivial, trivial, trivial, trivial, trivial, trivial, trivial, trivial⟩
def tJ6_bitCount_0f7a4 : List mI := [(0, .iload_n 0, 1, 0, 0), (1, .iload_n 0, 1, 0, 0), (2, .iconst 1, 1, 0, 0), (3, .iushr, 1, 0, 0), (4, .ldc_w 265, 3, 1431655765, 0), (7, .iand, 1, 0, 0), (8, .isub, 1, 0, 0), (9, .istore_n 0, 1, 0, 0), (10, .iload_n 0, 1, 0, 0), (11, .ldc_w 266, 3, 858993459, 0), (14, .iand, 1, 0, 0), (15, .iload_n 0, 1, 0, 0), (16, .iconst 2, 1, 0, 0), (17, .iushr, 1, 0, 0), (18, .ldc_w 266, 3, 858993459, 0), (21, .iand, 1, 0, 0), (22, .iadd, 1, 0, 0), (23, .istore_n 0, 1, 0, 0), (24, .iload_n 0, 1, 0, 0), (25, .iload_n 0, 1, 0, 0), (26, .iconst 4, 1, 0, 0), (27, .iushr, 1, 0, 0), (28, .iadd, 1, 0, 0), (29, .ldc_w 267, 3, 252645135, 0), (32, .iand, 1, 0, 0), (33, .istore_n 0, 1, 0, 0), (34, .iload_n 0, 1, 0, 0), (35, .iload_n 0, 1, 0, 0), (36, .bipush 8, 2, 0, 0), (38, .iushr, 1, 0, 0), (39, .iadd, 1, 0, 0), (40, .istore_n 0, 1, 0, 0), (41, .iload_n 0, 1, 0, 0), (42, .iload_n 0, 1, 0, 0), (43, .bipush 16, 2, 0, 0), (45, .iushr, 1, 0, 0), (46, .iadd, 1, 0, 0), (47, .istore_n 0, 1, 0, 0), (48, .iload_n 0, 1, 0, 0), (49, .bipush 63, 2, 0, 0), (51, .iand, 1, 0, 0), (52, .ireturn, 1, 0, 0)]
set_option maxRecDepth 100000 in
theorem kJ6_bitCount_0f7a4 : mTok cJ6_bitCount_0f7a4 RJ6 1 false tJ6_bitCount_0f7a4 := mTok_of (by decide +kernel) ⟨trivial, trivial, trivial, trivial, lcRJ6_265, trivial, trivial, trivial, trivial, lcRJ6_266, trivial, trivial, trivial, trivial, lcRJ6_266, trivial, trivial, trivial, trivial, trivial, trivial, trivial, trivial, lcRJ6_267, trivial, trivial, trivial, trivial, trivial, trivial, trivial, trivial, trivial, trivial, trivial, trivial, trivial, trivial, trivial, trivial, trivial, trivial, trivial⟩
def tJ9_max_7cf53 : List mI := [(0, .iload_n 0, 1, 0, 0), (1, .iload_n 1, 1, 0, 0), (2, .if_icmp .lt 7, 3, 0, 0), (5, .iload_n 0, 1, 0, 0), (6, .goto 4, 3, 0, 0), (9, .iload_n 1, 1, 0, 0), (10, .ireturn, 1, 0, 0)]
set_option maxRecDepth 100000 in
theorem kJ9_max_7cf53 : mTok cJ9_max_7cf53 RJ9 2 false tJ9_max_7cf53 := mTok_of (by decide +kernel) ⟨trivial, trivial, trivial, trivial, trivial, trivial, trivial, trivial⟩
def tJ9_min_7cf53 : List mI := [(0, .iload_n 0, 1, 0, 0), (1, .iload_n 1, 1, 0, 0), (2, .if_icmp .gt 7, 3, 0, 0), (5, .iload_n 0, 1, 0, 0), (6, .goto 4, 3, 0, 0), (9, .iload_n 1, 1, 0, 0), (10, .ireturn, 1, 0, 0)]
set_option maxRecDepth 100000 in
theorem kJ9_min_7cf53 : mTok cJ9_min_7cf53 RJ9 2 false tJ9_min_7cf53 := mTok_of (by decide +kernel) ⟨trivial, trivial, trivial, trivial, trivial, trivial, trivial, trivial⟩
def tJ7_fill_53178 : List mI := [(0, .iconst 0, 1, 0, 0), (1, .istore_n 2, 1, 0, 0), (2, .aload_n 0, 1, 0, 0), (3, .arraylength, 1, 0, 0), (4, .istore_n 3, 1, 0, 0), (5, .iload_n 2, 1, 0, 0), (6, .iload_n 3, 1, 0, 0), (7, .if_icmp .ge 13, 3, 0, 0), (10, .aload_n 0, 1, 0, 0), (11, .iload_n 2, 1, 0, 0), (12, .iload_n 1, 1, 0, 0), (13, .iastore, 1, 0, 0), (14, .iinc 2 1, 3, 0, 0), (17, .goto (-12), 3, 0, 0), (20, .return_, 1, 0, 0)]
set_option maxRecDepth 100000 in
theorem kJ7_fill_53178 : mTok cJ7_fill_53178 RJ7 4 false tJ7_fill_53178 := mTok_of (by decide +kernel) ⟨trivial, trivial, trivial, trivial, trivial, trivial, trivial, trivial, trivial, trivial, trivial, trivial, trivial, trivial, trivial, trivial⟩
end
section
def tX11_init : List mI := [(0, .aload_n 0, 1, 0, 0), (1, .invokespecial 1, 3, 0, 8888), (4, .aload_n 0, 1, 0, 0), (5, .new 7, 3, 4, 0), (8, .dup, 1, 0, 0), (9, .invokespecial 9, 3, 0, 0), (12, .putfield 10, 3, 11, 0), (15, .aload_n 0, 1, 0, 0), (16, .new 16, 3, 8, 0), (19, .dup, 1, 0, 0), (20, .invokespecial 18, 3, 0, 0), (23, .putfield 19, 3, 11, 1), (26, .aload_n 0, 1, 0, 0), (27, .new 16, 3, 8, 0), (30, .dup, 1, 0, 0), (31, .invokespecial 18, 3, 0, 0), (34, .putfield 23, 3, 11, 2), (37, .aload_n 0, 1, 0, 0), (38, .bipush 17, 2, 0, 0), (40, .newarray .int, 2, 0, 0), (42, .putfield 26, 3, 11, 3), (45, .aload_n 0, 1, 0, 0), (46, .bipush 17, 2, 0, 0), (48, .newarray .int, 2, 0, 0), (50, .putfield 30, 3, 11, 4), (53, .aload_n 0, 1, 0, 0), (54, .new 33, 3, 2, 0), (57, .dup, 1, 0, 0), (58, .invokespecial 35, 3, 0, 0), (61, .putfield 36, 3, 11, 5), (64, .aload_n 0, 1, 0, 0), (65, .new 40, 3, 1, 0), (68, .dup, 1, 0, 0), (69, .invokespecial 42, 3, 0, 0), (72, .putfield 43, 3, 11, 6), (75, .aload_n 0, 1, 0, 0), (76, .new 47, 3, 6, 0), (79, .dup, 1, 0, 0), (80, .invokespecial 49, 3, 0, 0), (83, .putfield 50, 3, 11, 7), (86, .aload_n 0, 1, 0, 0), (87, .new 54, 3, 7, 0), (90, .dup, 1, 0, 0), (91, .invokespecial 56, 3, 0, 0), (94, .putfield 57, 3, 11, 8), (97, .aload_n 0, 1, 0, 0), (98, .new 61, 3, 5, 0), (101, .dup, 1, 0, 0), (102, .invokespecial 63, 3, 0, 0), (105, .putfield 64, 3, 11, 9), (108, .aload_n 0, 1, 0, 0), (109, .new 68, 3, 10, 0), (112, .dup, 1, 0, 0), (113, .invokespecial 70, 3, 0, 0), (116, .putfield 71, 3, 11, 10), (119, .aload_n 0, 1, 0, 0), (120, .new 75, 3, 3, 0), (123, .dup, 1, 0, 0), (124, .invokespecial 77, 3, 0, 0), (127, .putfield 78, 3, 11, 11), (130, .aload_n 0, 1, 0, 0), (131, .bipush 8, 2, 0, 0), (133, .newarray .int, 2, 0, 0), (135, .putfield 82, 3, 11, 12), (138, .return_, 1, 0, 0)]
set_option maxRecDepth 100000 in
theorem kX11_init : mTok cX11_init RX11 1 true tX11_init := mTok_of (by decide +kernel) ⟨trivial, (fun _ => lmRX11_1), trivial, ⟨_, rfl, lnRX11_7, ls_RX4, li_RX4⟩, trivial, (fun z => by cases z), ⟨_, rfl, lfRX11_10, fun _ => rfl⟩, trivial, ⟨_, rfl, lnRX11_16, ls_RX8, li_RX8⟩, trivial, (fun z => by cases z), ⟨_, rfl, lfRX11_19, (fun z => by cases z)⟩, trivial, ⟨_, rfl, lnRX11_16, ls_RX8, li_RX8⟩, trivial, (fun z => by cases z), ⟨_, rfl, lfRX11_23, (fun z => by cases z)⟩, trivial, trivial, ⟨la_int, by decide⟩, ⟨_, rfl, lfRX11_26, fun _ => rfl⟩, trivial, trivial, ⟨la_int, by decide⟩, ⟨_, rfl, lfRX11_30, fun _ => rfl⟩, trivial, ⟨_, rfl, lnRX11_33, ls_RX2, li_RX2⟩, trivial, (fun z => by cases z), ⟨_, rfl, lfRX11_36, fun _ => rfl⟩, trivial, ⟨_, rfl, lnRX11_40, ls_RX1, li_RX1⟩, trivial, (fun z => by cases z), ⟨_, rfl, lfRX11_43, fun _ => rfl⟩, trivial, ⟨_, rfl, lnRX11_47, ls_RX6, li_RX6⟩, trivial, (fun z => by cases z), ⟨_, rfl, lfRX11_50, fun _ => rfl⟩, trivial, ⟨_, rfl, lnRX11_54, ls_RX7, li_RX7⟩, trivial, (fun z => by cases z), ⟨_, rfl, lfRX11_57, fun _ => rfl⟩, trivial, ⟨_, rfl, lnRX11_61, ls_RX5, li_RX5⟩, trivial, (fun z => by cases z), ⟨_, rfl, lfRX11_64, fun _ => rfl⟩, trivial, ⟨_, rfl, lnRX11_68, ls_RX10, li_RX10⟩, trivial, (fun z => by cases z), ⟨_, rfl, lfRX11_71, fun _ => rfl⟩, trivial, ⟨_, rfl, lnRX11_75, ls_RX3, li_RX3⟩, trivial, (fun z => by cases z), ⟨_, rfl, lfRX11_78, fun _ => rfl⟩, trivial, trivial, ⟨la_int, by decide⟩, ⟨_, rfl, lfRX11_82, fun _ => rfl⟩, trivial, trivial⟩
def tX11_feed : List mI := [(0, .aload_n 0, 1, 0, 0), (1, .getfield 10, 3, 11, 0), (4, .getfield 85, 3, 4, 1), (7, .sipush 1580, 3, 0, 0), (10, .if_icmp .le 5, 3, 0, 0), (13, .iconst (-1), 1, 0, 0), (14, .ireturn, 1, 0, 0), (15, .aload_n 0, 1, 0, 0), (16, .getfield 10, 3, 11, 0), (19, .iload_n 1, 1, 0, 0), (20, .invokevirtual 89, 3, 0, 0), (23, .aload_n 0, 1, 0, 0), (24, .getfield 10, 3, 11, 0), (27, .iload_n 2, 1, 0, 0), (28, .invokevirtual 89, 3, 0, 0), (31, .aload_n 0, 1, 0, 0), (32, .getfield 10, 3, 11, 0), (35, .iload_n 3, 1, 0, 0), (36, .invokevirtual 89, 3, 0, 0), (39, .aload_n 0, 1, 0, 0), (40, .getfield 10, 3, 11, 0), (43, .iload 4, 2, 0, 0), (45, .invokevirtual 89, 3, 0, 0), (48, .aload_n 0, 1, 0, 0), (49, .getfield 10, 3, 11, 0), (52, .iload 5, 2, 0, 0), (54, .invokevirtual 89, 3, 0, 0), (57, .aload_n 0, 1, 0, 0), (58, .getfield 10, 3, 11, 0), (61, .getfield 85, 3, 4, 1), (64, .ireturn, 1, 0, 0)]
set_option maxRecDepth 100000 in
theorem kX11_feed : mTok cX11_feed RX11 6 false tX11_feed := mTok_of (by decide +kernel) ⟨trivial, ⟨_, rfl, lfRX11_10⟩, ⟨_, rfl, lfRX11_85⟩, trivial, trivial, trivial, trivial, trivial, ⟨_, rfl, lfRX11_10⟩, trivial, trivial, trivial, ⟨_, rfl, lfRX11_10⟩, trivial, trivial, trivial, ⟨_, rfl, lfRX11_10⟩, trivial, trivial, trivial, ⟨_, rfl, lfRX11_10⟩, trivial, trivial, trivial, ⟨_, rfl, lfRX11_10⟩, trivial, trivial, trivial, ⟨_, rfl, lfRX11_10⟩, ⟨_, rfl, lfRX11_85⟩, trivial, trivial⟩
def tX11_end : List mI := [(0, .iload_n 1, 1, 0, 0), (1, .ifCond .lt 14, 3, 0, 0), (4, .iload_n 1, 1, 0, 0), (5, .aload_n 0, 1, 0, 0), (6, .getfield 10, 3, 11, 0), (9, .getfield 85, 3, 4, 1), (12, .if_icmp .le 5, 3, 0, 0), (15, .iconst (-1), 1, 0, 0), (16, .ireturn, 1, 0, 0), (17, .aload_n 0, 1, 0, 0), (18, .getfield 10, 3, 11, 0), (21, .iload_n 1, 1, 0, 0), (22, .putfield 85, 3, 4, 1), (25, .iload_n 1, 1, 0, 0), (26, .ireturn, 1, 0, 0)]
set_option maxRecDepth 100000 in
theorem kX11_end : mTok cX11_end RX11 2 false tX11_end := mTok_of (by decide +kernel) ⟨trivial, trivial, trivial, trivial, ⟨_, rfl, lfRX11_10⟩, ⟨_, rfl, lfRX11_85⟩, trivial, trivial, trivial, trivial, ⟨_, rfl, lfRX11_10⟩, trivial, ⟨_, rfl, lfRX11_85, (fun z => by cases z)⟩, trivial, trivial, trivial⟩
def tX11_province : List mI := [(0, .aload_n 0, 1, 0, 0), (1, .getfield 10, 3, 11, 0), (4, .aload_n 0, 1, 0, 0), (5, .getfield 23, 3, 11, 2), (8, .invokevirtual 93, 3, 0, 0), (11, .istore_n 1, 1, 0, 0), (12, .aload_n 0, 1, 0, 0), (13, .getfield 10, 3, 11, 0), (16, .iconst 0, 1, 0, 0), (17, .putfield 85, 3, 4, 1), (20, .iload_n 1, 1, 0, 0), (21, .ifCond .ne 5, 3, 0, 0), (24, .iconst (-1), 1, 0, 0), (25, .ireturn, 1, 0, 0), (26, .aload_n 0, 1, 0, 0), (27, .getfield 19, 3, 11, 1), (30, .astore_n 2, 1, 0, 0), (31, .aload_n 0, 1, 0, 0), (32, .aload_n 0, 1, 0, 0), (33, .getfield 23, 3, 11, 2), (36, .putfield 19, 3, 11, 1), (39, .aload_n 0, 1, 0, 0), (40, .aload_n 2, 1, 0, 0), (41, .putfield 23, 3, 11, 2), (44, .aload_n 0, 1, 0, 0), (45, .getfield 19, 3, 11, 1), (48, .aload_n 0, 1, 0, 0), (49, .getfield 26, 3, 11, 3), (52, .invokevirtual 97, 3, 0, 0), (55, .aload_n 0, 1, 0, 0), (56, .getfield 36, 3, 11, 5), (59, .aload_n 0, 1, 0, 0), (60, .getfield 26, 3, 11, 3), (63, .invokevirtual 101, 3, 0, 0), (66, .aload_n 0, 1, 0, 0), (67, .getfield 36, 3, 11, 5), (70, .invokevirtual 104, 3, 0, 0), (73, .aload_n 0, 1, 0, 0), (74, .getfield 64, 3, 11, 9), (77, .iconst 0, 1, 0, 0), (78, .putfield 107, 3, 5, 5), (81, .aload_n 0, 1, 0, 0), (82, .getfield 71, 3, 11, 10), (85, .invokevirtual 110, 3, 0, 0), (88, .aload_n 0, 1, 0, 0), (89, .getfield 78, 3, 11, 11), (92, .invokevirtual 113, 3, 0, 0), (95, .aload_n 0, 1, 0, 0), (96, .iconst 0, 1, 0, 0), (97, .putfield 114, 3, 11, 13), (100, .aload_n 0, 1, 0, 0), (101, .getfield 19, 3, 11, 1), (104, .getfield 117, 3, 8, 9), (107, .ireturn, 1, 0, 0)]
set_option maxRecDepth 100000 in
theorem kX11_province : mTok cX11_province RX11 3 false tX11_province := mTok_of (by decide +kernel) ⟨trivial, ⟨_, rfl, lfRX11_10⟩, trivial, ⟨_, rfl, lfRX11_23⟩, trivial, trivial, trivial, ⟨_, rfl, lfRX11_10⟩, trivial, ⟨_, rfl, lfRX11_85, (fun z => by cases z)⟩, trivial, trivial, trivial, trivial, trivial, ⟨_, rfl, lfRX11_19⟩, trivial, trivial, trivial, ⟨_, rfl, lfRX11_23⟩, ⟨_, rfl, lfRX11_19, (fun z => by cases z)⟩, trivial, trivial, ⟨_, rfl, lfRX11_23, (fun z => by cases z)⟩, trivial, ⟨_, rfl, lfRX11_19⟩, trivial, ⟨_, rfl, lfRX11_26⟩, trivial, trivial, ⟨_, rfl, lfRX11_36⟩, trivial, ⟨_, rfl, lfRX11_26⟩, trivial, trivial, ⟨_, rfl, lfRX11_36⟩, trivial, trivial, ⟨_, rfl, lfRX11_64⟩, trivial, ⟨_, rfl, lfRX11_107, (fun z => by cases z)⟩, trivial, ⟨_, rfl, lfRX11_71⟩, trivial, trivial, ⟨_, rfl, lfRX11_78⟩, trivial, trivial, trivial, ⟨_, rfl, lfRX11_114, (fun z => by cases z)⟩, trivial, ⟨_, rfl, lfRX11_19⟩, ⟨_, rfl, lfRX11_117⟩, trivial, trivial⟩
def tX11_fault : List mI := [(0, .iload_n 1, 1, 0, 0), (1, .lookupswitch 57 #[(0, 27), (1, 35)], 27, 0, 0), (28, .aload_n 0, 1, 0, 0), (29, .getfield 10, 3, 11, 0), (32, .getfield 118, 3, 4, 2), (35, .ireturn, 1, 0, 0), (36, .aload_n 0, 1, 0, 0), (37, .getfield 10, 3, 11, 0), (40, .getfield 118, 3, 4, 2), (43, .ifCond .ne 7, 3, 0, 0), (46, .iconst (-1), 1, 0, 0), (47, .goto 10, 3, 0, 0), (50, .aload_n 0, 1, 0, 0), (51, .getfield 10, 3, 11, 0), (54, .getfield 121, 3, 4, 3), (57, .ireturn, 1, 0, 0), (58, .iconst (-1), 1, 0, 0), (59, .ireturn, 1, 0, 0)]
set_option maxRecDepth 100000 in
theorem kX11_fault : mTok cX11_fault RX11 2 false tX11_fault := mTok_of (by decide +kernel) ⟨trivial, trivial, trivial, ⟨_, rfl, lfRX11_10⟩, ⟨_, rfl, lfRX11_118⟩, trivial, trivial, ⟨_, rfl, lfRX11_10⟩, ⟨_, rfl, lfRX11_118⟩, trivial, trivial, trivial, trivial, ⟨_, rfl, lfRX11_10⟩, ⟨_, rfl, lfRX11_121⟩, trivial, trivial, trivial, trivial⟩
def tX11_house : List mI := [(0, .aload_n 0, 1, 0, 0), (1, .iload_n 1, 1, 0, 0), (2, .invokevirtual 124, 3, 0, 0), (5, .ifCond .ne 5, 3, 0, 0), (8, .iconst (-1), 1, 0, 0), (9, .ireturn, 1, 0, 0), (10, .iload_n 2, 1, 0, 0), (11, .tableswitch 207 0 9 #[53, 63, 72, 81, 91, 101, 111, 124, 154, 179], 53, 0, 0), (64, .aload_n 0, 1, 0, 0), (65, .getfield 19, 3, 11, 1), (68, .getfield 128, 3, 8, 1), (71, .iload_n 1, 1, 0, 0), (72, .iaload, 1, 0, 0), (73, .ireturn, 1, 0, 0), (74, .aload_n 0, 1, 0, 0), (75, .getfield 26, 3, 11, 3), (78, .iconst 0, 1, 0, 0), (79, .iload_n 1, 1, 0, 0), (80, .iadd, 1, 0, 0), (81, .iaload, 1, 0, 0), (82, .ireturn, 1, 0, 0), (83, .aload_n 0, 1, 0, 0), (84, .getfield 26, 3, 11, 3), (87, .iconst 5, 1, 0, 0), (88, .iload_n 1, 1, 0, 0), (89, .iadd, 1, 0, 0), (90, .iaload, 1, 0, 0), (91, .ireturn, 1, 0, 0), (92, .aload_n 0, 1, 0, 0), (93, .getfield 26, 3, 11, 3), (96, .bipush 10, 2, 0, 0), (98, .iload_n 1, 1, 0, 0), (99, .iadd, 1, 0, 0), (100, .iaload, 1, 0, 0), (101, .ireturn, 1, 0, 0), (102, .aload_n 0, 1, 0, 0), (103, .getfield 19, 3, 11, 1), (106, .getfield 131, 3, 8, 3), (109, .iload_n 1, 1, 0, 0), (110, .iaload, 1, 0, 0), (111, .ireturn, 1, 0, 0), (112, .aload_n 0, 1, 0, 0), (113, .getfield 19, 3, 11, 1), (116, .getfield 134, 3, 8, 4), (119, .iload_n 1, 1, 0, 0), (120, .iaload, 1, 0, 0), (121, .ireturn, 1, 0, 0), (122, .aload_n 0, 1, 0, 0), (123, .getfield 19, 3, 11, 1), (126, .aload_n 0, 1, 0, 0), (127, .getfield 26, 3, 11, 3), (130, .iload_n 1, 1, 0, 0), (131, .invokevirtual 137, 3, 0, 0), (134, .ireturn, 1, 0, 0), (135, .aload_n 0, 1, 0, 0), (136, .getfield 19, 3, 11, 1), (139, .aload_n 0, 1, 0, 0), (140, .getfield 26, 3, 11, 3), (143, .iload_n 1, 1, 0, 0), (144, .invokevirtual 137, 3, 0, 0), (147, .aload_n 0, 1, 0, 0), (148, .getfield 19, 3, 11, 1), (151, .getfield 131, 3, 8, 3), (154, .iload_n 1, 1, 0, 0), (155, .iaload, 1, 0, 0), (156, .if_icmp .ge 7, 3, 0, 0), (159, .iconst 1, 1, 0, 0), (160, .goto 4, 3, 0, 0), (163, .iconst 0, 1, 0, 0), (164, .ireturn, 1, 0, 0), (165, .aload_n 0, 1, 0, 0), (166, .getfield 19, 3, 11, 1), (169, .aload_n 0, 1, 0, 0), (170, .getfield 26, 3, 11, 3), (173, .bipush 10, 2, 0, 0), (175, .iload_n 1, 1, 0, 0), (176, .iadd, 1, 0, 0), (177, .iaload, 1, 0, 0), (178, .iload_n 1, 1, 0, 0), (179, .aload_n 0, 1, 0, 0), (180, .getfield 26, 3, 11, 3), (183, .bipush 15, 2, 0, 0), (185, .iaload, 1, 0, 0), (186, .invokevirtual 141, 3, 0, 0), (189, .ireturn, 1, 0, 0), (190, .aload_n 0, 1, 0, 0), (191, .getfield 19, 3, 11, 1), (194, .aload_n 0, 1, 0, 0), (195, .getfield 19, 3, 11, 1), (198, .aload_n 0, 1, 0, 0), (199, .getfield 26, 3, 11, 3), (202, .iload_n 1, 1, 0, 0), (203, .invokevirtual 137, 3, 0, 0), (206, .iload_n 1, 1, 0, 0), (207, .aload_n 0, 1, 0, 0), (208, .getfield 26, 3, 11, 3), (211, .bipush 15, 2, 0, 0), (213, .iaload, 1, 0, 0), (214, .invokevirtual 141, 3, 0, 0), (217, .ireturn, 1, 0, 0), (218, .iconst (-1), 1, 0, 0), (219, .ireturn, 1, 0, 0)]
set_option maxRecDepth 100000 in
theorem kX11_house : mTok cX11_house RX11 3 false tX11_house := mTok_of (by decide +kernel) ⟨trivial, trivial, trivial, trivial, trivial, trivial, trivial, trivial, trivial, ⟨_, rfl, lfRX11_19⟩, ⟨_, rfl, lfRX11_128⟩, trivial, trivial, trivial, trivial, ⟨_, rfl, lfRX11_26⟩, trivial, trivial, trivial, trivial, trivial, trivial, ⟨_, rfl, lfRX11_26⟩, trivial, trivial, trivial, trivial, trivial, trivial, ⟨_, rfl, lfRX11_26⟩, trivial, trivial, trivial, trivial, trivial, trivial, ⟨_, rfl, lfRX11_19⟩, ⟨_, rfl, lfRX11_131⟩, trivial, trivial, trivial, trivial, ⟨_, rfl, lfRX11_19⟩, ⟨_, rfl, lfRX11_134⟩, trivial, trivial, trivial, trivial, ⟨_, rfl, lfRX11_19⟩, trivial, ⟨_, rfl, lfRX11_26⟩, trivial, trivial, trivial, trivial, ⟨_, rfl, lfRX11_19⟩, trivial, ⟨_, rfl, lfRX11_26⟩, trivial, trivial, trivial, ⟨_, rfl, lfRX11_19⟩, ⟨_, rfl, lfRX11_131⟩, trivial, trivial, trivial, trivial, trivial, trivial, trivial, trivial, ⟨_, rfl, lfRX11_19⟩, trivial, ⟨_, rfl, lfRX11_26⟩, trivial, trivial, trivial, trivial, trivial, trivial, ⟨_, rfl, lfRX11_26⟩, trivial, trivial, trivial, trivial, trivial, ⟨_, rfl, lfRX11_19⟩, trivial, ⟨_, rfl, lfRX11_19⟩, trivial, ⟨_, rfl, lfRX11_26⟩, trivial, trivial, trivial, trivial, ⟨_, rfl, lfRX11_26⟩, trivial, trivial, trivial, trivial, trivial, trivial, trivial⟩
def tX11_sum : List mI := [(0, .iload_n 1, 1, 0, 0), (1, .tableswitch 78 0 5 #[39, 45, 51, 57, 64, 71], 39, 0, 0), (40, .aload_n 0, 1, 0, 0), (41, .iconst 1, 1, 0, 0), (42, .invokevirtual 145, 3, 0, 0), (45, .ireturn, 1, 0, 0), (46, .aload_n 0, 1, 0, 0), (47, .iconst 2, 1, 0, 0), (48, .invokevirtual 145, 3, 0, 0), (51, .ireturn, 1, 0, 0), (52, .aload_n 0, 1, 0, 0), (53, .iconst 3, 1, 0, 0), (54, .invokevirtual 145, 3, 0, 0), (57, .ireturn, 1, 0, 0), (58, .aload_n 0, 1, 0, 0), (59, .bipush 6, 2, 0, 0), (61, .invokevirtual 145, 3, 0, 0), (64, .ireturn, 1, 0, 0), (65, .aload_n 0, 1, 0, 0), (66, .bipush 8, 2, 0, 0), (68, .invokevirtual 145, 3, 0, 0), (71, .ireturn, 1, 0, 0), (72, .aload_n 0, 1, 0, 0), (73, .bipush 9, 2, 0, 0), (75, .invokevirtual 145, 3, 0, 0), (78, .ireturn, 1, 0, 0), (79, .iconst (-1), 1, 0, 0), (80, .ireturn, 1, 0, 0)]
set_option maxRecDepth 100000 in
theorem kX11_sum : mTok cX11_sum RX11 2 false tX11_sum := mTok_of (by decide +kernel) ⟨trivial, trivial, trivial, trivial, trivial, trivial, trivial, trivial, trivial, trivial, trivial, trivial, trivial, trivial, trivial, trivial, trivial, trivial, trivial, trivial, trivial, trivial, trivial, trivial, trivial, trivial, trivial, trivial, trivial⟩
def tX11_comes : List mI := [(0, .aload_n 0, 1, 0, 0), (1, .iload_n 1, 1, 0, 0), (2, .invokevirtual 124, 3, 0, 0), (5, .ifCond .eq 16, 3, 0, 0), (8, .aload_n 0, 1, 0, 0), (9, .getfield 26, 3, 11, 3), (12, .iconst 0, 1, 0, 0), (13, .iload_n 1, 1, 0, 0), (14, .iadd, 1, 0, 0), (15, .iaload, 1, 0, 0), (16, .bipush 7, 2, 0, 0), (18, .if_icmp .lt 5, 3, 0, 0), (21, .iconst (-1), 1, 0, 0), (22, .ireturn, 1, 0, 0), (23, .aload_n 0, 1, 0, 0), (24, .getfield 26, 3, 11, 3), (27, .iconst 0, 1, 0, 0), (28, .iload_n 1, 1, 0, 0), (29, .iadd, 1, 0, 0), (30, .dup2, 1, 0, 0), (31, .iaload, 1, 0, 0), (32, .iconst 1, 1, 0, 0), (33, .iadd, 1, 0, 0), (34, .iastore, 1, 0, 0), (35, .aload_n 0, 1, 0, 0), (36, .getfield 36, 3, 11, 5), (39, .aload_n 0, 1, 0, 0), (40, .getfield 26, 3, 11, 3), (43, .invokevirtual 149, 3, 0, 0), (46, .aload_n 0, 1, 0, 0), (47, .getfield 26, 3, 11, 3), (50, .iconst 0, 1, 0, 0), (51, .iload_n 1, 1, 0, 0), (52, .iadd, 1, 0, 0), (53, .iaload, 1, 0, 0), (54, .ireturn, 1, 0, 0)]
set_option maxRecDepth 100000 in
theorem kX11_comes : mTok cX11_comes RX11 2 false tX11_comes := mTok_of (by decide +kernel) ⟨trivial, trivial, trivial, trivial, trivial, ⟨_, rfl, lfRX11_26⟩, trivial, trivial, trivial, trivial, trivial, trivial, trivial, trivial, trivial, ⟨_, rfl, lfRX11_26⟩, trivial, trivial, trivial, trivial, trivial, trivial, trivial, trivial, trivial, ⟨_, rfl, lfRX11_36⟩, trivial, ⟨_, rfl, lfRX11_26⟩, trivial, trivial, ⟨_, rfl, lfRX11_26⟩, trivial, trivial, trivial, trivial, trivial, trivial⟩
def tX11_goes : List mI := [(0, .aload_n 0, 1, 0, 0), (1, .iload_n 1, 1, 0, 0), (2, .invokevirtual 124, 3, 0, 0), (5, .ifCond .eq 14, 3, 0, 0), (8, .aload_n 0, 1, 0, 0), (9, .getfield 26, 3, 11, 3), (12, .iconst 0, 1, 0, 0), (13, .iload_n 1, 1, 0, 0), (14, .iadd, 1, 0, 0), (15, .iaload, 1, 0, 0), (16, .ifCond .gt 5, 3, 0, 0), (19, .iconst (-1), 1, 0, 0), (20, .ireturn, 1, 0, 0), (21, .aload_n 0, 1, 0, 0), (22, .iload_n 1, 1, 0, 0), (23, .invokevirtual 152, 3, 0, 0), (26, .aload_n 0, 1, 0, 0), (27, .getfield 36, 3, 11, 5), (30, .aload_n 0, 1, 0, 0), (31, .getfield 26, 3, 11, 3), (34, .invokevirtual 149, 3, 0, 0), (37, .aload_n 0, 1, 0, 0), (38, .getfield 26, 3, 11, 3), (41, .iconst 0, 1, 0, 0), (42, .iload_n 1, 1, 0, 0), (43, .iadd, 1, 0, 0), (44, .iaload, 1, 0, 0), (45, .ireturn, 1, 0, 0)]
set_option maxRecDepth 100000 in
theorem kX11_goes : mTok cX11_goes RX11 2 false tX11_goes := mTok_of (by decide +kernel) ⟨trivial, trivial, trivial, trivial, trivial, ⟨_, rfl, lfRX11_26⟩, trivial, trivial, trivial, trivial, trivial, trivial, trivial, trivial, trivial, trivial, trivial, ⟨_, rfl, lfRX11_36⟩, trivial, ⟨_, rfl, lfRX11_26⟩, trivial, trivial, ⟨_, rfl, lfRX11_26⟩, trivial, trivial, trivial, trivial, trivial, trivial⟩
def tX11_moves : List mI := [(0, .aload_n 0, 1, 0, 0), (1, .iload_n 1, 1, 0, 0), (2, .invokevirtual 124, 3, 0, 0), (5, .ifCond .eq 16, 3, 0, 0), (8, .aload_n 0, 1, 0, 0), (9, .iload_n 2, 1, 0, 0), (10, .invokevirtual 124, 3, 0, 0), (13, .ifCond .eq 8, 3, 0, 0), (16, .iload_n 1, 1, 0, 0), (17, .iload_n 2, 1, 0, 0), (18, .if_icmp .ne 5, 3, 0, 0), (21, .iconst (-1), 1, 0, 0), (22, .ireturn, 1, 0, 0), (23, .aload_n 0, 1, 0, 0), (24, .getfield 26, 3, 11, 3), (27, .iconst 0, 1, 0, 0), (28, .iload_n 1, 1, 0, 0), (29, .iadd, 1, 0, 0), (30, .iaload, 1, 0, 0), (31, .ifCond .le 16, 3, 0, 0), (34, .aload_n 0, 1, 0, 0), (35, .getfield 26, 3, 11, 3), (38, .iconst 0, 1, 0, 0), (39, .iload_n 2, 1, 0, 0), (40, .iadd, 1, 0, 0), (41, .iaload, 1, 0, 0), (42, .bipush 7, 2, 0, 0), (44, .if_icmp .lt 5, 3, 0, 0), (47, .iconst (-1), 1, 0, 0), (48, .ireturn, 1, 0, 0), (49, .aload_n 0, 1, 0, 0), (50, .iload_n 1, 1, 0, 0), (51, .invokevirtual 152, 3, 0, 0), (54, .aload_n 0, 1, 0, 0), (55, .getfield 26, 3, 11, 3), (58, .iconst 0, 1, 0, 0), (59, .iload_n 2, 1, 0, 0), (60, .iadd, 1, 0, 0), (61, .dup2, 1, 0, 0), (62, .iaload, 1, 0, 0), (63, .iconst 1, 1, 0, 0), (64, .iadd, 1, 0, 0), (65, .iastore, 1, 0, 0), (66, .aload_n 0, 1, 0, 0), (67, .getfield 36, 3, 11, 5), (70, .aload_n 0, 1, 0, 0), (71, .getfield 26, 3, 11, 3), (74, .invokevirtual 149, 3, 0, 0), (77, .aload_n 0, 1, 0, 0), (78, .getfield 26, 3, 11, 3), (81, .iconst 0, 1, 0, 0), (82, .iload_n 2, 1, 0, 0), (83, .iadd, 1, 0, 0), (84, .iaload, 1, 0, 0), (85, .ireturn, 1, 0, 0)]
set_option maxRecDepth 100000 in
theorem kX11_moves : mTok cX11_moves RX11 3 false tX11_moves := mTok_of (by decide +kernel) ⟨trivial, trivial, trivial, trivial, trivial, trivial, trivial, trivial, trivial, trivial, trivial, trivial, trivial, trivial, ⟨_, rfl, lfRX11_26⟩, trivial, trivial, trivial, trivial, trivial, trivial, ⟨_, rfl, lfRX11_26⟩, trivial, trivial, trivial, trivial, trivial, trivial, trivial, trivial, trivial, trivial, trivial, trivial, ⟨_, rfl, lfRX11_26⟩, trivial, trivial, trivial, trivial, trivial, trivial, trivial, trivial, trivial, ⟨_, rfl, lfRX11_36⟩, trivial, ⟨_, rfl, lfRX11_26⟩, trivial, trivial, ⟨_, rfl, lfRX11_26⟩, trivial, trivial, trivial, trivial, trivial, trivial⟩
def tX11_hide : List mI := [(0, .aload_n 0, 1, 0, 0), (1, .iload_n 1, 1, 0, 0), (2, .invokevirtual 124, 3, 0, 0), (5, .ifCond .eq 19, 3, 0, 0), (8, .iload_n 2, 1, 0, 0), (9, .ifCond .lt 15, 3, 0, 0), (12, .iload_n 2, 1, 0, 0), (13, .aload_n 0, 1, 0, 0), (14, .getfield 26, 3, 11, 3), (17, .iconst 0, 1, 0, 0), (18, .iload_n 1, 1, 0, 0), (19, .iadd, 1, 0, 0), (20, .iaload, 1, 0, 0), (21, .if_icmp .le 5, 3, 0, 0), (24, .iconst (-1), 1, 0, 0), (25, .ireturn, 1, 0, 0), (26, .aload_n 0, 1, 0, 0), (27, .getfield 26, 3, 11, 3), (30, .iconst 5, 1, 0, 0), (31, .iload_n 1, 1, 0, 0), (32, .iadd, 1, 0, 0), (33, .iaload, 1, 0, 0), (34, .istore_n 3, 1, 0, 0), (35, .aload_n 0, 1, 0, 0), (36, .getfield 26, 3, 11, 3), (39, .iconst 5, 1, 0, 0), (40, .iload_n 1, 1, 0, 0), (41, .iadd, 1, 0, 0), (42, .iload_n 2, 1, 0, 0), (43, .iastore, 1, 0, 0), (44, .aload_n 0, 1, 0, 0), (45, .getfield 36, 3, 11, 5), (48, .aload_n 0, 1, 0, 0), (49, .getfield 26, 3, 11, 3), (52, .invokevirtual 149, 3, 0, 0), (55, .iload_n 3, 1, 0, 0), (56, .ireturn, 1, 0, 0)]
set_option maxRecDepth 100000 in
theorem kX11_hide : mTok cX11_hide RX11 4 false tX11_hide := mTok_of (by decide +kernel) ⟨trivial, trivial, trivial, trivial, trivial, trivial, trivial, trivial, ⟨_, rfl, lfRX11_26⟩, trivial, trivial, trivial, trivial, trivial, trivial, trivial, trivial, ⟨_, rfl, lfRX11_26⟩, trivial, trivial, trivial, trivial, trivial, trivial, ⟨_, rfl, lfRX11_26⟩, trivial, trivial, trivial, trivial, trivial, trivial, ⟨_, rfl, lfRX11_36⟩, trivial, ⟨_, rfl, lfRX11_26⟩, trivial, trivial, trivial, trivial⟩
def tX11_steal : List mI := [(0, .aload_n 0, 1, 0, 0), (1, .iload_n 1, 1, 0, 0), (2, .invokevirtual 124, 3, 0, 0), (5, .ifCond .eq 27, 3, 0, 0), (8, .iload_n 2, 1, 0, 0), (9, .iconst 1, 1, 0, 0), (10, .if_icmp .lt 22, 3, 0, 0), (13, .iload_n 2, 1, 0, 0), (14, .bipush 99, 2, 0, 0), (16, .if_icmp .gt 16, 3, 0, 0), (19, .iload_n 2, 1, 0, 0), (20, .aload_n 0, 1, 0, 0), (21, .getfield 26, 3, 11, 3), (24, .bipush 10, 2, 0, 0), (26, .iload_n 1, 1, 0, 0), (27, .iadd, 1, 0, 0), (28, .iaload, 1, 0, 0), (29, .if_icmp .le 5, 3, 0, 0), (32, .iconst (-1), 1, 0, 0), (33, .ireturn, 1, 0, 0), (34, .aload_n 0, 1, 0, 0), (35, .getfield 26, 3, 11, 3), (38, .bipush 10, 2, 0, 0), (40, .iload_n 1, 1, 0, 0), (41, .iadd, 1, 0, 0), (42, .dup2, 1, 0, 0), (43, .iaload, 1, 0, 0), (44, .iload_n 2, 1, 0, 0), (45, .isub, 1, 0, 0), (46, .iastore, 1, 0, 0), (47, .aload_n 0, 1, 0, 0), (48, .getfield 36, 3, 11, 5), (51, .aload_n 0, 1, 0, 0), (52, .getfield 26, 3, 11, 3), (55, .invokevirtual 149, 3, 0, 0), (58, .aload_n 0, 1, 0, 0), (59, .getfield 26, 3, 11, 3), (62, .bipush 10, 2, 0, 0), (64, .iload_n 1, 1, 0, 0), (65, .iadd, 1, 0, 0), (66, .iaload, 1, 0, 0), (67, .ireturn, 1, 0, 0)]
set_option maxRecDepth 100000 in
theorem kX11_steal : mTok cX11_steal RX11 3 false tX11_steal := mTok_of (by decide +kernel) ⟨trivial, trivial, trivial, trivial, trivial, trivial, trivial, trivial, trivial, trivial, trivial, trivial, ⟨_, rfl, lfRX11_26⟩, trivial, trivial, trivial, trivial, trivial, trivial, trivial, trivial, ⟨_, rfl, lfRX11_26⟩, trivial, trivial, trivial, trivial, trivial, trivial, trivial, trivial, trivial, ⟨_, rfl, lfRX11_36⟩, trivial, ⟨_, rfl, lfRX11_26⟩, trivial, trivial, ⟨_, rfl, lfRX11_26⟩, trivial, trivial, trivial, trivial, trivial, trivial⟩
def tX11_summer : List mI := [(0, .aload_n 0, 1, 0, 0), (1, .getfield 26, 3, 11, 3), (4, .bipush 15, 2, 0, 0), (6, .iaload, 1, 0, 0), (7, .sipush 999, 3, 0, 0), (10, .if_icmp .lt 5, 3, 0, 0), (13, .iconst (-1), 1, 0, 0), (14, .ireturn, 1, 0, 0), (15, .aload_n 0, 1, 0, 0), (16, .getfield 19, 3, 11, 1), (19, .aload_n 0, 1, 0, 0), (20, .getfield 26, 3, 11, 3), (23, .invokevirtual 155, 3, 0, 0), (26, .aload_n 0, 1, 0, 0), (27, .getfield 36, 3, 11, 5), (30, .aload_n 0, 1, 0, 0), (31, .getfield 26, 3, 11, 3), (34, .invokevirtual 149, 3, 0, 0), (37, .aload_n 0, 1, 0, 0), (38, .aload_n 0, 1, 0, 0), (39, .getfield 26, 3, 11, 3), (42, .invokevirtual 158, 3, 0, 0), (45, .ireturn, 1, 0, 0)]
set_option maxRecDepth 100000 in
theorem kX11_summer : mTok cX11_summer RX11 1 false tX11_summer := mTok_of (by decide +kernel) ⟨trivial, ⟨_, rfl, lfRX11_26⟩, trivial, trivial, trivial, trivial, trivial, trivial, trivial, ⟨_, rfl, lfRX11_19⟩, trivial, ⟨_, rfl, lfRX11_26⟩, trivial, trivial, ⟨_, rfl, lfRX11_36⟩, trivial, ⟨_, rfl, lfRX11_26⟩, trivial, trivial, trivial, ⟨_, rfl, lfRX11_26⟩, trivial, trivial, trivial⟩
def tX11_undo : List mI := [(0, .aload_n 0, 1, 0, 0), (1, .getfield 36, 3, 11, 5), (4, .aload_n 0, 1, 0, 0), (5, .getfield 26, 3, 11, 3), (8, .invokevirtual 162, 3, 0, 0), (11, .ireturn, 1, 0, 0)]
set_option maxRecDepth 100000 in
theorem kX11_undo : mTok cX11_undo RX11 1 false tX11_undo := mTok_of (by decide +kernel) ⟨trivial, ⟨_, rfl, lfRX11_36⟩, trivial, ⟨_, rfl, lfRX11_26⟩, trivial, trivial, trivial⟩
def tX11_redo : List mI := [(0, .aload_n 0, 1, 0, 0), (1, .getfield 36, 3, 11, 5), (4, .aload_n 0, 1, 0, 0), (5, .getfield 26, 3, 11, 3), (8, .invokevirtual 166, 3, 0, 0), (11, .ireturn, 1, 0, 0)]
set_option maxRecDepth 100000 in
theorem kX11_redo : mTok cX11_redo RX11 1 false tX11_redo := mTok_of (by decide +kernel) ⟨trivial, ⟨_, rfl, lfRX11_36⟩, trivial, ⟨_, rfl, lfRX11_26⟩, trivial, trivial, trivial⟩
def tX11_falses : List mI := [(0, .iconst 0, 1, 0, 0), (1, .istore_n 1, 1, 0, 0), (2, .iconst 0, 1, 0, 0), (3, .istore_n 2, 1, 0, 0), (4, .iload_n 2, 1, 0, 0), (5, .aload_n 0, 1, 0, 0), (6, .getfield 19, 3, 11, 1), (9, .getfield 117, 3, 8, 9), (12, .if_icmp .ge 35, 3, 0, 0), (15, .aload_n 0, 1, 0, 0), (16, .getfield 26, 3, 11, 3), (19, .bipush 10, 2, 0, 0), (21, .iload_n 2, 1, 0, 0), (22, .iadd, 1, 0, 0), (23, .iaload, 1, 0, 0), (24, .aload_n 0, 1, 0, 0), (25, .getfield 26, 3, 11, 3), (28, .iconst 0, 1, 0, 0), (29, .iload_n 2, 1, 0, 0), (30, .iadd, 1, 0, 0), (31, .iaload, 1, 0, 0), (32, .if_icmp .eq 9, 3, 0, 0), (35, .iload_n 1, 1, 0, 0), (36, .iconst 1, 1, 0, 0), (37, .iload_n 2, 1, 0, 0), (38, .ishl, 1, 0, 0), (39, .ior, 1, 0, 0), (40, .istore_n 1, 1, 0, 0), (41, .iinc 2 1, 3, 0, 0), (44, .goto (-40), 3, 0, 0), (47, .iload_n 1, 1, 0, 0), (48, .ireturn, 1, 0, 0)]
set_option maxRecDepth 100000 in
theorem kX11_falses : mTok cX11_falses RX11 3 false tX11_falses := mTok_of (by decide +kernel) ⟨trivial, trivial, trivial, trivial, trivial, trivial, ⟨_, rfl, lfRX11_19⟩, ⟨_, rfl, lfRX11_117⟩, trivial, trivial, ⟨_, rfl, lfRX11_26⟩, trivial, trivial, trivial, trivial, trivial, ⟨_, rfl, lfRX11_26⟩, trivial, trivial, trivial, trivial, trivial, trivial, trivial, trivial, trivial, trivial, trivial, trivial, trivial, trivial, trivial, trivial⟩
def tX11_will : List mI := [(0, .aload_n 0, 1, 0, 0), (1, .iload_n 1, 1, 0, 0), (2, .invokevirtual 124, 3, 0, 0), (5, .ifCond .eq 13, 3, 0, 0), (8, .iload_n 2, 1, 0, 0), (9, .iconst 0, 1, 0, 0), (10, .bipush 60, 2, 0, 0), (12, .invokestatic 169, 3, 0, 0), (15, .ifCond .ne 5, 3, 0, 0), (18, .iconst (-1), 1, 0, 0), (19, .ireturn, 1, 0, 0), (20, .aload_n 0, 1, 0, 0), (21, .iload_n 2, 1, 0, 0), (22, .invokevirtual 173, 3, 0, 0), (25, .aload_n 0, 1, 0, 0), (26, .getfield 30, 3, 11, 4), (29, .iconst 0, 1, 0, 0), (30, .iload_n 1, 1, 0, 0), (31, .iadd, 1, 0, 0), (32, .iaload, 1, 0, 0), (33, .ireturn, 1, 0, 0)]
set_option maxRecDepth 100000 in
theorem kX11_will : mTok cX11_will RX11 3 false tX11_will := mTok_of (by decide +kernel) ⟨trivial, trivial, trivial, trivial, trivial, trivial, trivial, (fun z => by cases z), trivial, trivial, trivial, trivial, trivial, trivial, trivial, ⟨_, rfl, lfRX11_30⟩, trivial, trivial, trivial, trivial, trivial, trivial⟩
def tX11_bowls : List mI := [(0, .iload_n 1, 1, 0, 0), (1, .iconst 0, 1, 0, 0), (2, .bipush 60, 2, 0, 0), (4, .invokestatic 169, 3, 0, 0), (7, .ifCond .ne 5, 3, 0, 0), (10, .iconst (-1), 1, 0, 0), (11, .ireturn, 1, 0, 0), (12, .aload_n 0, 1, 0, 0), (13, .iload_n 1, 1, 0, 0), (14, .invokevirtual 173, 3, 0, 0), (17, .aload_n 0, 1, 0, 0), (18, .aload_n 0, 1, 0, 0), (19, .getfield 30, 3, 11, 4), (22, .invokevirtual 158, 3, 0, 0), (25, .ireturn, 1, 0, 0)]
set_option maxRecDepth 100000 in
theorem kX11_bowls : mTok cX11_bowls RX11 2 false tX11_bowls := mTok_of (by decide +kernel) ⟨trivial, trivial, trivial, (fun z => by cases z), trivial, trivial, trivial, trivial, trivial, trivial, trivial, trivial, ⟨_, rfl, lfRX11_30⟩, trivial, trivial, trivial⟩
def tX11_leave : List mI := [(0, .aload_n 0, 1, 0, 0), (1, .iconst 0, 1, 0, 0), (2, .putfield 114, 3, 11, 13), (5, .iload_n 1, 1, 0, 0), (6, .iconst 0, 1, 0, 0), (7, .sipush 9999, 3, 0, 0), (10, .invokestatic 169, 3, 0, 0), (13, .ifCond .ne 5, 3, 0, 0), (16, .iconst (-1), 1, 0, 0), (17, .ireturn, 1, 0, 0), (18, .aload_n 0, 1, 0, 0), (19, .getfield 43, 3, 11, 6), (22, .aload_n 0, 1, 0, 0), (23, .getfield 19, 3, 11, 1), (26, .aload_n 0, 1, 0, 0), (27, .getfield 26, 3, 11, 3), (30, .invokevirtual 176, 3, 0, 0), (33, .aload_n 0, 1, 0, 0), (34, .getfield 43, 3, 11, 6), (37, .iload_n 1, 1, 0, 0), (38, .invokevirtual 180, 3, 0, 0), (41, .istore_n 2, 1, 0, 0), (42, .iload_n 2, 1, 0, 0), (43, .iconst (-1), 1, 0, 0), (44, .if_icmp .eq 21, 3, 0, 0), (47, .aload_n 0, 1, 0, 0), (48, .aload_n 0, 1, 0, 0), (49, .getfield 43, 3, 11, 6), (52, .getfield 183, 3, 1, 2), (55, .aload_n 0, 1, 0, 0), (56, .getfield 19, 3, 11, 1), (59, .getfield 117, 3, 8, 9), (62, .invokevirtual 186, 3, 0, 0), (65, .iload_n 2, 1, 0, 0), (66, .ireturn, 1, 0, 0)]
set_option maxRecDepth 100000 in
theorem kX11_leave : mTok cX11_leave RX11 3 false tX11_leave := mTok_of (by decide +kernel) ⟨trivial, trivial, ⟨_, rfl, lfRX11_114, (fun z => by cases z)⟩, trivial, trivial, trivial, (fun z => by cases z), trivial, trivial, trivial, trivial, ⟨_, rfl, lfRX11_43⟩, trivial, ⟨_, rfl, lfRX11_19⟩, trivial, ⟨_, rfl, lfRX11_26⟩, trivial, trivial, ⟨_, rfl, lfRX11_43⟩, trivial, trivial, trivial, trivial, trivial, trivial, trivial, trivial, ⟨_, rfl, lfRX11_43⟩, ⟨_, rfl, lfRX11_183⟩, trivial, ⟨_, rfl, lfRX11_19⟩, ⟨_, rfl, lfRX11_117⟩, trivial, trivial, trivial, trivial⟩
def tX11_least : List mI := [(0, .aload_n 0, 1, 0, 0), (1, .getfield 43, 3, 11, 6), (4, .aload_n 0, 1, 0, 0), (5, .getfield 19, 3, 11, 1), (8, .aload_n 0, 1, 0, 0), (9, .getfield 26, 3, 11, 3), (12, .invokevirtual 176, 3, 0, 0), (15, .aload_n 0, 1, 0, 0), (16, .getfield 43, 3, 11, 6), (19, .invokevirtual 190, 3, 0, 0), (22, .ireturn, 1, 0, 0)]
set_option maxRecDepth 100000 in
theorem kX11_least : mTok cX11_least RX11 1 false tX11_least := mTok_of (by decide +kernel) ⟨trivial, ⟨_, rfl, lfRX11_43⟩, trivial, ⟨_, rfl, lfRX11_19⟩, trivial, ⟨_, rfl, lfRX11_26⟩, trivial, trivial, ⟨_, rfl, lfRX11_43⟩, trivial, trivial, trivial⟩
def tX11_rounds : List mI := [(0, .aload_n 0, 1, 0, 0), (1, .iconst 0, 1, 0, 0), (2, .putfield 114, 3, 11, 13), (5, .iload_n 1, 1, 0, 0), (6, .iconst 0, 1, 0, 0), (7, .sipush 999, 3, 0, 0), (10, .invokestatic 169, 3, 0, 0), (13, .ifCond .ne 5, 3, 0, 0), (16, .iconst (-1), 1, 0, 0), (17, .ireturn, 1, 0, 0), (18, .aload_n 0, 1, 0, 0), (19, .getfield 50, 3, 11, 7), (22, .aload_n 0, 1, 0, 0), (23, .getfield 19, 3, 11, 1), (26, .aload_n 0, 1, 0, 0), (27, .getfield 26, 3, 11, 3), (30, .invokevirtual 194, 3, 0, 0), (33, .aload_n 0, 1, 0, 0), (34, .getfield 50, 3, 11, 7), (37, .iload_n 1, 1, 0, 0), (38, .invokevirtual 195, 3, 0, 0), (41, .istore_n 2, 1, 0, 0), (42, .iload_n 2, 1, 0, 0), (43, .iconst (-1), 1, 0, 0), (44, .if_icmp .eq 21, 3, 0, 0), (47, .aload_n 0, 1, 0, 0), (48, .aload_n 0, 1, 0, 0), (49, .getfield 50, 3, 11, 7), (52, .getfield 198, 3, 6, 2), (55, .aload_n 0, 1, 0, 0), (56, .getfield 19, 3, 11, 1), (59, .getfield 117, 3, 8, 9), (62, .invokevirtual 186, 3, 0, 0), (65, .iload_n 2, 1, 0, 0), (66, .ireturn, 1, 0, 0)]
set_option maxRecDepth 100000 in
theorem kX11_rounds : mTok cX11_rounds RX11 3 false tX11_rounds := mTok_of (by decide +kernel) ⟨trivial, trivial, ⟨_, rfl, lfRX11_114, (fun z => by cases z)⟩, trivial, trivial, trivial, (fun z => by cases z), trivial, trivial, trivial, trivial, ⟨_, rfl, lfRX11_50⟩, trivial, ⟨_, rfl, lfRX11_19⟩, trivial, ⟨_, rfl, lfRX11_26⟩, trivial, trivial, ⟨_, rfl, lfRX11_50⟩, trivial, trivial, trivial, trivial, trivial, trivial, trivial, trivial, ⟨_, rfl, lfRX11_50⟩, ⟨_, rfl, lfRX11_198⟩, trivial, ⟨_, rfl, lfRX11_19⟩, ⟨_, rfl, lfRX11_117⟩, trivial, trivial, trivial, trivial⟩
def tX11_noon : List mI := [(0, .iload_n 1, 1, 0, 0), (1, .iconst 1, 1, 0, 0), (2, .iconst 5, 1, 0, 0), (3, .invokestatic 169, 3, 0, 0), (6, .ifCond .eq 13, 3, 0, 0), (9, .aload_n 0, 1, 0, 0), (10, .getfield 19, 3, 11, 1), (13, .getfield 117, 3, 8, 9), (16, .ifCond .ne 5, 3, 0, 0), (19, .iconst (-1), 1, 0, 0), (20, .ireturn, 1, 0, 0), (21, .aload_n 0, 1, 0, 0), (22, .getfield 50, 3, 11, 7), (25, .aload_n 0, 1, 0, 0), (26, .getfield 19, 3, 11, 1), (29, .aload_n 0, 1, 0, 0), (30, .getfield 26, 3, 11, 3), (33, .invokevirtual 194, 3, 0, 0), (36, .aload_n 0, 1, 0, 0), (37, .getfield 50, 3, 11, 7), (40, .iload_n 1, 1, 0, 0), (41, .invokevirtual 201, 3, 0, 0), (44, .ireturn, 1, 0, 0)]
set_option maxRecDepth 100000 in
theorem kX11_noon : mTok cX11_noon RX11 2 false tX11_noon := mTok_of (by decide +kernel) ⟨trivial, trivial, trivial, (fun z => by cases z), trivial, trivial, ⟨_, rfl, lfRX11_19⟩, ⟨_, rfl, lfRX11_117⟩, trivial, trivial, trivial, trivial, ⟨_, rfl, lfRX11_50⟩, trivial, ⟨_, rfl, lfRX11_19⟩, trivial, ⟨_, rfl, lfRX11_26⟩, trivial, trivial, ⟨_, rfl, lfRX11_50⟩, trivial, trivial, trivial, trivial⟩
def tX11_missed : List mI := [(0, .aload_n 0, 1, 0, 0), (1, .aload_n 0, 1, 0, 0), (2, .getfield 26, 3, 11, 3), (5, .invokevirtual 158, 3, 0, 0), (8, .istore_n 2, 1, 0, 0), (9, .iconst 0, 1, 0, 0), (10, .istore_n 3, 1, 0, 0), (11, .iconst 0, 1, 0, 0), (12, .istore 4, 2, 0, 0), (14, .iload 4, 2, 0, 0), (16, .aload_n 0, 1, 0, 0), (17, .getfield 19, 3, 11, 1), (20, .getfield 117, 3, 8, 9), (23, .if_icmp .ge 32, 3, 0, 0), (26, .iload_n 2, 1, 0, 0), (27, .aload_n 0, 1, 0, 0), (28, .getfield 26, 3, 11, 3), (31, .bipush 10, 2, 0, 0), (33, .iload 4, 2, 0, 0), (35, .iadd, 1, 0, 0), (36, .iaload, 1, 0, 0), (37, .isub, 1, 0, 0), (38, .iload_n 1, 1, 0, 0), (39, .if_icmp .ne 10, 3, 0, 0), (42, .iload_n 3, 1, 0, 0), (43, .iconst 1, 1, 0, 0), (44, .iload 4, 2, 0, 0), (46, .ishl, 1, 0, 0), (47, .ior, 1, 0, 0), (48, .istore_n 3, 1, 0, 0), (49, .iinc 4 1, 3, 0, 0), (52, .goto (-38), 3, 0, 0), (55, .iload_n 3, 1, 0, 0), (56, .ireturn, 1, 0, 0)]
set_option maxRecDepth 100000 in
theorem kX11_missed : mTok cX11_missed RX11 5 false tX11_missed := mTok_of (by decide +kernel) ⟨trivial, trivial, ⟨_, rfl, lfRX11_26⟩, trivial, trivial, trivial, trivial, trivial, trivial, trivial, trivial, ⟨_, rfl, lfRX11_19⟩, ⟨_, rfl, lfRX11_117⟩, trivial, trivial, trivial, ⟨_, rfl, lfRX11_26⟩, trivial, trivial, trivial, trivial, trivial, trivial, trivial, trivial, trivial, trivial, trivial, trivial, trivial, trivial, trivial, trivial, trivial, trivial⟩
def tX11_doubled : List mI := [(0, .aload_n 0, 1, 0, 0), (1, .aload_n 0, 1, 0, 0), (2, .getfield 26, 3, 11, 3), (5, .invokevirtual 158, 3, 0, 0), (8, .istore_n 2, 1, 0, 0), (9, .iconst 0, 1, 0, 0), (10, .istore_n 3, 1, 0, 0), (11, .iconst 0, 1, 0, 0), (12, .istore 4, 2, 0, 0), (14, .iload 4, 2, 0, 0), (16, .aload_n 0, 1, 0, 0), (17, .getfield 19, 3, 11, 1), (20, .getfield 117, 3, 8, 9), (23, .if_icmp .ge 32, 3, 0, 0), (26, .iload_n 2, 1, 0, 0), (27, .aload_n 0, 1, 0, 0), (28, .getfield 26, 3, 11, 3), (31, .bipush 10, 2, 0, 0), (33, .iload 4, 2, 0, 0), (35, .iadd, 1, 0, 0), (36, .iaload, 1, 0, 0), (37, .iadd, 1, 0, 0), (38, .iload_n 1, 1, 0, 0), (39, .if_icmp .ne 10, 3, 0, 0), (42, .iload_n 3, 1, 0, 0), (43, .iconst 1, 1, 0, 0), (44, .iload 4, 2, 0, 0), (46, .ishl, 1, 0, 0), (47, .ior, 1, 0, 0), (48, .istore_n 3, 1, 0, 0), (49, .iinc 4 1, 3, 0, 0), (52, .goto (-38), 3, 0, 0), (55, .iload_n 3, 1, 0, 0), (56, .ireturn, 1, 0, 0)]
set_option maxRecDepth 100000 in
theorem kX11_doubled : mTok cX11_doubled RX11 5 false tX11_doubled := mTok_of (by decide +kernel) ⟨trivial, trivial, ⟨_, rfl, lfRX11_26⟩, trivial, trivial, trivial, trivial, trivial, trivial, trivial, trivial, ⟨_, rfl, lfRX11_19⟩, ⟨_, rfl, lfRX11_117⟩, trivial, trivial, trivial, ⟨_, rfl, lfRX11_26⟩, trivial, trivial, trivial, trivial, trivial, trivial, trivial, trivial, trivial, trivial, trivial, trivial, trivial, trivial, trivial, trivial, trivial, trivial⟩
def tX11_seats : List mI := [(0, .aload_n 0, 1, 0, 0), (1, .iload_n 1, 1, 0, 0), (2, .invokevirtual 124, 3, 0, 0), (5, .ifCond .eq 22, 3, 0, 0), (8, .iload_n 2, 1, 0, 0), (9, .iconst 1, 1, 0, 0), (10, .bipush 20, 2, 0, 0), (12, .invokestatic 169, 3, 0, 0), (15, .ifCond .eq 12, 3, 0, 0), (18, .iload_n 3, 1, 0, 0), (19, .iconst 0, 1, 0, 0), (20, .iconst 1, 1, 0, 0), (21, .invokestatic 169, 3, 0, 0), (24, .ifCond .ne 5, 3, 0, 0), (27, .iconst (-1), 1, 0, 0), (28, .ireturn, 1, 0, 0), (29, .aload_n 0, 1, 0, 0), (30, .getfield 57, 3, 11, 8), (33, .aload_n 0, 1, 0, 0), (34, .getfield 26, 3, 11, 3), (37, .aload_n 0, 1, 0, 0), (38, .getfield 19, 3, 11, 1), (41, .getfield 117, 3, 8, 9), (44, .invokevirtual 204, 3, 0, 0), (47, .aload_n 0, 1, 0, 0), (48, .getfield 57, 3, 11, 8), (51, .iload_n 2, 1, 0, 0), (52, .iload_n 3, 1, 0, 0), (53, .invokevirtual 206, 3, 0, 0), (56, .aload_n 0, 1, 0, 0), (57, .getfield 57, 3, 11, 8), (60, .getfield 210, 3, 7, 1), (63, .iload_n 1, 1, 0, 0), (64, .iaload, 1, 0, 0), (65, .ireturn, 1, 0, 0)]
set_option maxRecDepth 100000 in
theorem kX11_seats : mTok cX11_seats RX11 4 false tX11_seats := mTok_of (by decide +kernel) ⟨trivial, trivial, trivial, trivial, trivial, trivial, trivial, (fun z => by cases z), trivial, trivial, trivial, trivial, (fun z => by cases z), trivial, trivial, trivial, trivial, ⟨_, rfl, lfRX11_57⟩, trivial, ⟨_, rfl, lfRX11_26⟩, trivial, ⟨_, rfl, lfRX11_19⟩, ⟨_, rfl, lfRX11_117⟩, trivial, trivial, ⟨_, rfl, lfRX11_57⟩, trivial, trivial, trivial, trivial, ⟨_, rfl, lfRX11_57⟩, ⟨_, rfl, lfRX11_210⟩, trivial, trivial, trivial, trivial⟩
def tX11_stone : List mI := [(0, .iload_n 1, 1, 0, 0), (1, .iconst 1, 1, 0, 0), (2, .bipush 20, 2, 0, 0), (4, .invokestatic 169, 3, 0, 0), (7, .ifCond .eq 12, 3, 0, 0), (10, .iload_n 2, 1, 0, 0), (11, .iconst 0, 1, 0, 0), (12, .iconst 1, 1, 0, 0), (13, .invokestatic 169, 3, 0, 0), (16, .ifCond .ne 5, 3, 0, 0), (19, .iconst (-1), 1, 0, 0), (20, .ireturn, 1, 0, 0), (21, .aload_n 0, 1, 0, 0), (22, .getfield 57, 3, 11, 8), (25, .aload_n 0, 1, 0, 0), (26, .getfield 26, 3, 11, 3), (29, .aload_n 0, 1, 0, 0), (30, .getfield 19, 3, 11, 1), (33, .getfield 117, 3, 8, 9), (36, .invokevirtual 204, 3, 0, 0), (39, .aload_n 0, 1, 0, 0), (40, .getfield 57, 3, 11, 8), (43, .iload_n 1, 1, 0, 0), (44, .iload_n 2, 1, 0, 0), (45, .invokevirtual 213, 3, 0, 0), (48, .ireturn, 1, 0, 0)]
set_option maxRecDepth 100000 in
theorem kX11_stone : mTok cX11_stone RX11 3 false tX11_stone := mTok_of (by decide +kernel) ⟨trivial, trivial, trivial, (fun z => by cases z), trivial, trivial, trivial, trivial, (fun z => by cases z), trivial, trivial, trivial, trivial, ⟨_, rfl, lfRX11_57⟩, trivial, ⟨_, rfl, lfRX11_26⟩, trivial, ⟨_, rfl, lfRX11_19⟩, ⟨_, rfl, lfRX11_117⟩, trivial, trivial, ⟨_, rfl, lfRX11_57⟩, trivial, trivial, trivial, trivial, trivial⟩
def tX11_loss : List mI := [(0, .iload_n 1, 1, 0, 0), (1, .iconst 0, 1, 0, 0), (2, .iconst 1, 1, 0, 0), (3, .invokestatic 169, 3, 0, 0), (6, .ifCond .ne 5, 3, 0, 0), (9, .iconst (-1), 1, 0, 0), (10, .ireturn, 1, 0, 0), (11, .aload_n 0, 1, 0, 0), (12, .getfield 57, 3, 11, 8), (15, .aload_n 0, 1, 0, 0), (16, .getfield 26, 3, 11, 3), (19, .aload_n 0, 1, 0, 0), (20, .getfield 19, 3, 11, 1), (23, .getfield 117, 3, 8, 9), (26, .invokevirtual 204, 3, 0, 0), (29, .iconst 2, 1, 0, 0), (30, .istore_n 2, 1, 0, 0), (31, .iload_n 2, 1, 0, 0), (32, .bipush 20, 2, 0, 0), (34, .if_icmp .gt 33, 3, 0, 0), (37, .aload_n 0, 1, 0, 0), (38, .getfield 57, 3, 11, 8), (41, .iload_n 2, 1, 0, 0), (42, .invokevirtual 217, 3, 0, 0), (45, .istore_n 3, 1, 0, 0), (46, .iload_n 3, 1, 0, 0), (47, .iconst (-1), 1, 0, 0), (48, .if_icmp .eq 13, 3, 0, 0), (51, .iload_n 1, 1, 0, 0), (52, .ifCond .ne 7, 3, 0, 0), (55, .iload_n 2, 1, 0, 0), (56, .goto 4, 3, 0, 0), (59, .iload_n 3, 1, 0, 0), (60, .ireturn, 1, 0, 0), (61, .iinc 2 1, 3, 0, 0), (64, .goto (-33), 3, 0, 0), (67, .iconst (-1), 1, 0, 0), (68, .ireturn, 1, 0, 0)]
set_option maxRecDepth 100000 in
theorem kX11_loss : mTok cX11_loss RX11 4 false tX11_loss := mTok_of (by decide +kernel) ⟨trivial, trivial, trivial, (fun z => by cases z), trivial, trivial, trivial, trivial, ⟨_, rfl, lfRX11_57⟩, trivial, ⟨_, rfl, lfRX11_26⟩, trivial, ⟨_, rfl, lfRX11_19⟩, ⟨_, rfl, lfRX11_117⟩, trivial, trivial, trivial, trivial, trivial, trivial, trivial, ⟨_, rfl, lfRX11_57⟩, trivial, trivial, trivial, trivial, trivial, trivial, trivial, trivial, trivial, trivial, trivial, trivial, trivial, trivial, trivial, trivial, trivial⟩
def tX11_draft : List mI := [(0, .aload_n 0, 1, 0, 0), (1, .iload_n 1, 1, 0, 0), (2, .invokevirtual 124, 3, 0, 0), (5, .ifCond .eq 22, 3, 0, 0), (8, .iload_n 2, 1, 0, 0), (9, .iconst 0, 1, 0, 0), (10, .bipush 35, 2, 0, 0), (12, .invokestatic 169, 3, 0, 0), (15, .ifCond .eq 12, 3, 0, 0), (18, .iload_n 2, 1, 0, 0), (19, .aload_n 0, 1, 0, 0), (20, .iconst 0, 1, 0, 0), (21, .invokevirtual 220, 3, 0, 0), (24, .if_icmp .le 5, 3, 0, 0), (27, .iconst (-1), 1, 0, 0), (28, .ireturn, 1, 0, 0), (29, .aload_n 0, 1, 0, 0), (30, .getfield 26, 3, 11, 3), (33, .iconst 0, 1, 0, 0), (34, .aload_n 0, 1, 0, 0), (35, .getfield 30, 3, 11, 4), (38, .iconst 0, 1, 0, 0), (39, .bipush 17, 2, 0, 0), (41, .invokestatic 223, 3, 0, 7777), (44, .iconst 0, 1, 0, 0), (45, .istore_n 3, 1, 0, 0), (46, .iload_n 3, 1, 0, 0), (47, .iload_n 2, 1, 0, 0), (48, .if_icmp .ge 28, 3, 0, 0), (51, .aload_n 0, 1, 0, 0), (52, .getfield 30, 3, 11, 4), (55, .iconst 0, 1, 0, 0), (56, .aload_n 0, 1, 0, 0), (57, .aload_n 0, 1, 0, 0), (58, .getfield 30, 3, 11, 4), (61, .invokevirtual 229, 3, 0, 0), (64, .iadd, 1, 0, 0), (65, .dup2, 1, 0, 0), (66, .iaload, 1, 0, 0), (67, .iconst 1, 1, 0, 0), (68, .isub, 1, 0, 0), (69, .iastore, 1, 0, 0), (70, .iinc 3 1, 3, 0, 0), (73, .goto (-27), 3, 0, 0), (76, .aload_n 0, 1, 0, 0), (77, .getfield 26, 3, 11, 3), (80, .iconst 0, 1, 0, 0), (81, .iload_n 1, 1, 0, 0), (82, .iadd, 1, 0, 0), (83, .iaload, 1, 0, 0), (84, .aload_n 0, 1, 0, 0), (85, .getfield 30, 3, 11, 4), (88, .iconst 0, 1, 0, 0), (89, .iload_n 1, 1, 0, 0), (90, .iadd, 1, 0, 0), (91, .iaload, 1, 0, 0), (92, .isub, 1, 0, 0), (93, .ireturn, 1, 0, 0)]
set_option maxRecDepth 100000 in
theorem kX11_draft : mTok cX11_draft RX11 4 false tX11_draft := mTok_of (by decide +kernel) ⟨trivial, trivial, trivial, trivial, trivial, trivial, trivial, (fun z => by cases z), trivial, trivial, trivial, trivial, trivial, trivial, trivial, trivial, trivial, ⟨_, rfl, lfRX11_26⟩, trivial, trivial, ⟨_, rfl, lfRX11_30⟩, trivial, trivial, (fun _ => lmRX11_223), trivial, trivial, trivial, trivial, trivial, trivial, ⟨_, rfl, lfRX11_30⟩, trivial, trivial, trivial, ⟨_, rfl, lfRX11_30⟩, trivial, trivial, trivial, trivial, trivial, trivial, trivial, trivial, trivial, trivial, ⟨_, rfl, lfRX11_26⟩, trivial, trivial, trivial, trivial, trivial, ⟨_, rfl, lfRX11_30⟩, trivial, trivial, trivial, trivial, trivial, trivial, trivial⟩
def tX11_chase : List mI := [(0, .aload_n 0, 1, 0, 0), (1, .iconst 0, 1, 0, 0), (2, .putfield 114, 3, 11, 13), (5, .aload_n 0, 1, 0, 0), (6, .getfield 19, 3, 11, 1), (9, .getfield 117, 3, 8, 9), (12, .ifCond .ne 5, 3, 0, 0), (15, .iconst (-1), 1, 0, 0), (16, .ireturn, 1, 0, 0), (17, .aload_n 0, 1, 0, 0), (18, .getfield 50, 3, 11, 7), (21, .aload_n 0, 1, 0, 0), (22, .getfield 19, 3, 11, 1), (25, .aload_n 0, 1, 0, 0), (26, .getfield 26, 3, 11, 3), (29, .invokevirtual 194, 3, 0, 0), (32, .aload_n 0, 1, 0, 0), (33, .getfield 50, 3, 11, 7), (36, .invokevirtual 232, 3, 0, 0), (39, .istore_n 1, 1, 0, 0), (40, .aload_n 0, 1, 0, 0), (41, .aload_n 0, 1, 0, 0), (42, .getfield 50, 3, 11, 7), (45, .getfield 235, 3, 6, 7), (48, .iload_n 1, 1, 0, 0), (49, .invokevirtual 186, 3, 0, 0), (52, .iload_n 1, 1, 0, 0), (53, .ireturn, 1, 0, 0)]
set_option maxRecDepth 100000 in
theorem kX11_chase : mTok cX11_chase RX11 2 false tX11_chase := mTok_of (by decide +kernel) ⟨trivial, trivial, ⟨_, rfl, lfRX11_114, (fun z => by cases z)⟩, trivial, ⟨_, rfl, lfRX11_19⟩, ⟨_, rfl, lfRX11_117⟩, trivial, trivial, trivial, trivial, ⟨_, rfl, lfRX11_50⟩, trivial, ⟨_, rfl, lfRX11_19⟩, trivial, ⟨_, rfl, lfRX11_26⟩, trivial, trivial, ⟨_, rfl, lfRX11_50⟩, trivial, trivial, trivial, trivial, ⟨_, rfl, lfRX11_50⟩, ⟨_, rfl, lfRX11_235⟩, trivial, trivial, trivial, trivial, trivial⟩
def tX11_marks : List mI := [(0, .iload_n 1, 1, 0, 0), (1, .iconst 0, 1, 0, 0), (2, .bipush 60, 2, 0, 0), (4, .invokestatic 169, 3, 0, 0), (7, .ifCond .eq 13, 3, 0, 0), (10, .iload_n 2, 1, 0, 0), (11, .iconst 0, 1, 0, 0), (12, .bipush 60, 2, 0, 0), (14, .invokestatic 169, 3, 0, 0), (17, .ifCond .ne 5, 3, 0, 0), (20, .iconst (-1), 1, 0, 0), (21, .ireturn, 1, 0, 0), (22, .iload_n 3, 1, 0, 0), (23, .ifCond .lt 13, 3, 0, 0), (26, .iload_n 3, 1, 0, 0), (27, .iload_n 1, 1, 0, 0), (28, .if_icmp .gt 8, 3, 0, 0), (31, .iload_n 3, 1, 0, 0), (32, .iload_n 2, 1, 0, 0), (33, .if_icmp .le 5, 3, 0, 0), (36, .iconst (-1), 1, 0, 0), (37, .ireturn, 1, 0, 0), (38, .iload_n 1, 1, 0, 0), (39, .iload_n 2, 1, 0, 0), (40, .iadd, 1, 0, 0), (41, .iload_n 3, 1, 0, 0), (42, .isub, 1, 0, 0), (43, .istore 4, 2, 0, 0), (45, .iload 4, 2, 0, 0), (47, .istore 5, 2, 0, 0), (49, .iload 4, 2, 0, 0), (51, .iconst 1, 1, 0, 0), (52, .iadd, 1, 0, 0), (53, .istore 6, 2, 0, 0), (55, .iload 6, 2, 0, 0), (57, .sipush 200, 3, 0, 0), (60, .if_icmp .gt 23, 3, 0, 0), (63, .iload 6, 2, 0, 0), (65, .iload_n 3, 1, 0, 0), (66, .imul, 1, 0, 0), (67, .iload_n 1, 1, 0, 0), (68, .iload_n 2, 1, 0, 0), (69, .imul, 1, 0, 0), (70, .if_icmp .ge 13, 3, 0, 0), (73, .iload 6, 2, 0, 0), (75, .istore 5, 2, 0, 0), (77, .iinc 6 1, 3, 0, 0), (80, .goto (-25), 3, 0, 0), (83, .iload 5, 2, 0, 0), (85, .ireturn, 1, 0, 0)]
set_option maxRecDepth 100000 in
theorem kX11_marks : mTok cX11_marks RX11 7 false tX11_marks := mTok_of (by decide +kernel) ⟨trivial, trivial, trivial, (fun z => by cases z), trivial, trivial, trivial, trivial, (fun z => by cases z), trivial, trivial, trivial, trivial, trivial, trivial, trivial, trivial, trivial, trivial, trivial, trivial, trivial, trivial, trivial, trivial, trivial, trivial, trivial, trivial, trivial, trivial, trivial, trivial, trivial, trivial, trivial, trivial, trivial, trivial, trivial, trivial, trivial, trivial, trivial, trivial, trivial, trivial, trivial, trivial, trivial, trivial⟩
def tX11_lies : List mI := [(0, .iload_n 1, 1, 0, 0), (1, .ifCond .lt 20, 3, 0, 0), (4, .iload_n 1, 1, 0, 0), (5, .aload_n 0, 1, 0, 0), (6, .getfield 114, 3, 11, 13), (9, .if_icmp .ge 12, 3, 0, 0), (12, .aload_n 0, 1, 0, 0), (13, .getfield 82, 3, 11, 12), (16, .iload_n 1, 1, 0, 0), (17, .iaload, 1, 0, 0), (18, .goto 4, 3, 0, 0), (21, .iconst (-1), 1, 0, 0), (22, .ireturn, 1, 0, 0)]
set_option maxRecDepth 100000 in
theorem kX11_lies : mTok cX11_lies RX11 2 false tX11_lies := mTok_of (by decide +kernel) ⟨trivial, trivial, trivial, trivial, ⟨_, rfl, lfRX11_114⟩, trivial, trivial, ⟨_, rfl, lfRX11_82⟩, trivial, trivial, trivial, trivial, trivial, trivial⟩
def tX11_report : List mI := [(0, .iload_n 1, 1, 0, 0), (1, .iconst 1, 1, 0, 0), (2, .iconst 1, 1, 0, 0), (3, .aload_n 0, 1, 0, 0), (4, .getfield 19, 3, 11, 1), (7, .getfield 117, 3, 8, 9), (10, .ishl, 1, 0, 0), (11, .iconst 1, 1, 0, 0), (12, .isub, 1, 0, 0), (13, .invokestatic 169, 3, 0, 0), (16, .ifCond .ne 5, 3, 0, 0), (19, .iconst (-1), 1, 0, 0), (20, .ireturn, 1, 0, 0), (21, .iload_n 2, 1, 0, 0), (22, .iconst 0, 1, 0, 0), (23, .bipush 35, 2, 0, 0), (25, .invokestatic 169, 3, 0, 0), (28, .ifCond .eq 13, 3, 0, 0), (31, .iload_n 3, 1, 0, 0), (32, .iload_n 2, 1, 0, 0), (33, .bipush 35, 2, 0, 0), (35, .invokestatic 169, 3, 0, 0), (38, .ifCond .ne 5, 3, 0, 0), (41, .iconst (-1), 1, 0, 0), (42, .ireturn, 1, 0, 0), (43, .aload_n 0, 1, 0, 0), (44, .getfield 64, 3, 11, 9), (47, .iload_n 1, 1, 0, 0), (48, .iload_n 2, 1, 0, 0), (49, .iload_n 3, 1, 0, 0), (50, .aload_n 0, 1, 0, 0), (51, .getfield 238, 3, 11, 14), (54, .invokevirtual 241, 3, 0, 0), (57, .ireturn, 1, 0, 0)]
set_option maxRecDepth 100000 in
theorem kX11_report : mTok cX11_report RX11 4 false tX11_report := mTok_of (by decide +kernel) ⟨trivial, trivial, trivial, trivial, ⟨_, rfl, lfRX11_19⟩, ⟨_, rfl, lfRX11_117⟩, trivial, trivial, trivial, (fun z => by cases z), trivial, trivial, trivial, trivial, trivial, trivial, (fun z => by cases z), trivial, trivial, trivial, trivial, (fun z => by cases z), trivial, trivial, trivial, trivial, ⟨_, rfl, lfRX11_64⟩, trivial, trivial, trivial, trivial, ⟨_, rfl, lfRX11_238⟩, trivial, trivial, trivial⟩
def tX11_untell : List mI := [(0, .aload_n 0, 1, 0, 0), (1, .getfield 64, 3, 11, 9), (4, .iload_n 1, 1, 0, 0), (5, .aload_n 0, 1, 0, 0), (6, .getfield 238, 3, 11, 14), (9, .invokevirtual 245, 3, 0, 0), (12, .ireturn, 1, 0, 0)]
set_option maxRecDepth 100000 in
theorem kX11_untell : mTok cX11_untell RX11 2 false tX11_untell := mTok_of (by decide +kernel) ⟨trivial, ⟨_, rfl, lfRX11_64⟩, trivial, trivial, ⟨_, rfl, lfRX11_238⟩, trivial, trivial, trivial⟩
def tX11_later : List mI := [(0, .iload_n 1, 1, 0, 0), (1, .iconst 0, 1, 0, 0), (2, .sipush 1000, 3, 0, 0), (5, .invokestatic 169, 3, 0, 0), (8, .ifCond .eq 14, 3, 0, 0), (11, .aload_n 0, 1, 0, 0), (12, .getfield 238, 3, 11, 14), (15, .iload_n 1, 1, 0, 0), (16, .iadd, 1, 0, 0), (17, .ldc 249, 2, 100000, 0), (19, .if_icmp .le 5, 3, 0, 0), (22, .iconst (-1), 1, 0, 0), (23, .ireturn, 1, 0, 0), (24, .aload_n 0, 1, 0, 0), (25, .dup, 1, 0, 0), (26, .getfield 238, 3, 11, 14), (29, .iload_n 1, 1, 0, 0), (30, .iadd, 1, 0, 0), (31, .putfield 238, 3, 11, 14), (34, .aload_n 0, 1, 0, 0), (35, .getfield 238, 3, 11, 14), (38, .ireturn, 1, 0, 0)]
set_option maxRecDepth 100000 in
theorem kX11_later : mTok cX11_later RX11 2 false tX11_later := mTok_of (by decide +kernel) ⟨trivial, trivial, trivial, (fun z => by cases z), trivial, trivial, ⟨_, rfl, lfRX11_238⟩, trivial, trivial, lcRX11_249, trivial, trivial, trivial, trivial, trivial, ⟨_, rfl, lfRX11_238⟩, trivial, trivial, ⟨_, rfl, lfRX11_238, (fun z => by cases z)⟩, trivial, ⟨_, rfl, lfRX11_238⟩, trivial, trivial⟩
def tX11_truths : List mI := [(0, .aload_n 0, 1, 0, 0), (1, .iload_n 1, 1, 0, 0), (2, .invokevirtual 250, 3, 0, 0), (5, .aload_n 0, 1, 0, 0), (6, .getfield 71, 3, 11, 10), (9, .getfield 253, 3, 10, 8), (12, .ireturn, 1, 0, 0)]
set_option maxRecDepth 100000 in
theorem kX11_truths : mTok cX11_truths RX11 2 false tX11_truths := mTok_of (by decide +kernel) ⟨trivial, trivial, trivial, trivial, ⟨_, rfl, lfRX11_71⟩, ⟨_, rfl, lfRX11_253⟩, trivial, trivial⟩
def tX11_range : List mI := [(0, .aload_n 0, 1, 0, 0), (1, .iload_n 1, 1, 0, 0), (2, .invokevirtual 124, 3, 0, 0), (5, .ifCond .eq 12, 3, 0, 0), (8, .iload_n 2, 1, 0, 0), (9, .iconst 0, 1, 0, 0), (10, .iconst 1, 1, 0, 0), (11, .invokestatic 169, 3, 0, 0), (14, .ifCond .ne 5, 3, 0, 0), (17, .iconst (-1), 1, 0, 0), (18, .ireturn, 1, 0, 0), (19, .aload_n 0, 1, 0, 0), (20, .iload_n 3, 1, 0, 0), (21, .invokevirtual 250, 3, 0, 0), (24, .iload_n 2, 1, 0, 0), (25, .ifCond .ne 14, 3, 0, 0), (28, .aload_n 0, 1, 0, 0), (29, .getfield 71, 3, 11, 10), (32, .iload_n 1, 1, 0, 0), (33, .invokevirtual 256, 3, 0, 0), (36, .goto 11, 3, 0, 0), (39, .aload_n 0, 1, 0, 0), (40, .getfield 71, 3, 11, 10), (43, .iload_n 1, 1, 0, 0), (44, .invokevirtual 259, 3, 0, 0), (47, .ireturn, 1, 0, 0)]
set_option maxRecDepth 100000 in
theorem kX11_range : mTok cX11_range RX11 4 false tX11_range := mTok_of (by decide +kernel) ⟨trivial, trivial, trivial, trivial, trivial, trivial, trivial, (fun z => by cases z), trivial, trivial, trivial, trivial, trivial, trivial, trivial, trivial, trivial, ⟨_, rfl, lfRX11_71⟩, trivial, trivial, trivial, trivial, ⟨_, rfl, lfRX11_71⟩, trivial, trivial, trivial, trivial⟩
def tX11_liars : List mI := [(0, .aload_n 0, 1, 0, 0), (1, .getfield 78, 3, 11, 11), (4, .aload_n 0, 1, 0, 0), (5, .getfield 64, 3, 11, 9), (8, .aload_n 0, 1, 0, 0), (9, .getfield 64, 3, 11, 9), (12, .iload_n 1, 1, 0, 0), (13, .invokevirtual 262, 3, 0, 0), (16, .aload_n 0, 1, 0, 0), (17, .getfield 19, 3, 11, 1), (20, .getfield 117, 3, 8, 9), (23, .invokevirtual 265, 3, 0, 0), (26, .aload_n 0, 1, 0, 0), (27, .aload_n 0, 1, 0, 0), (28, .getfield 78, 3, 11, 11), (31, .getfield 268, 3, 3, 4), (34, .aload_n 0, 1, 0, 0), (35, .getfield 19, 3, 11, 1), (38, .getfield 117, 3, 8, 9), (41, .invokevirtual 186, 3, 0, 0), (44, .aload_n 0, 1, 0, 0), (45, .getfield 78, 3, 11, 11), (48, .getfield 271, 3, 3, 5), (51, .ireturn, 1, 0, 0)]
set_option maxRecDepth 100000 in
theorem kX11_liars : mTok cX11_liars RX11 2 false tX11_liars := mTok_of (by decide +kernel) ⟨trivial, ⟨_, rfl, lfRX11_78⟩, trivial, ⟨_, rfl, lfRX11_64⟩, trivial, ⟨_, rfl, lfRX11_64⟩, trivial, trivial, trivial, ⟨_, rfl, lfRX11_19⟩, ⟨_, rfl, lfRX11_117⟩, trivial, trivial, trivial, ⟨_, rfl, lfRX11_78⟩, ⟨_, rfl, lfRX11_268⟩, trivial, ⟨_, rfl, lfRX11_19⟩, ⟨_, rfl, lfRX11_117⟩, trivial, trivial, ⟨_, rfl, lfRX11_78⟩, ⟨_, rfl, lfRX11_271⟩, trivial, trivial⟩
def tX11_knock : List mI := [(0, .iload_n 1, 1, 0, 0), (1, .iconst 0, 1, 0, 0), (2, .iconst 1, 1, 0, 0), (3, .invokestatic 169, 3, 0, 0), (6, .ifCond .eq 13, 3, 0, 0), (9, .aload_n 0, 1, 0, 0), (10, .getfield 19, 3, 11, 1), (13, .getfield 117, 3, 8, 9), (16, .ifCond .ne 5, 3, 0, 0), (19, .iconst (-1), 1, 0, 0), (20, .ireturn, 1, 0, 0), (21, .aload_n 0, 1, 0, 0), (22, .iload_n 2, 1, 0, 0), (23, .invokevirtual 250, 3, 0, 0), (26, .aload_n 0, 1, 0, 0), (27, .getfield 71, 3, 11, 10), (30, .getfield 253, 3, 10, 8), (33, .ifCond .ne 5, 3, 0, 0), (36, .iconst (-1), 1, 0, 0), (37, .ireturn, 1, 0, 0), (38, .aload_n 0, 1, 0, 0), (39, .getfield 71, 3, 11, 10), (42, .invokevirtual 274, 3, 0, 0), (45, .istore_n 3, 1, 0, 0), (46, .iload_n 1, 1, 0, 0), (47, .ifCond .ne 7, 3, 0, 0), (50, .iload_n 3, 1, 0, 0), (51, .goto 11, 3, 0, 0), (54, .aload_n 0, 1, 0, 0), (55, .getfield 71, 3, 11, 10), (58, .iload_n 3, 1, 0, 0), (59, .invokevirtual 277, 3, 0, 0), (62, .ireturn, 1, 0, 0)]
set_option maxRecDepth 100000 in
theorem kX11_knock : mTok cX11_knock RX11 4 false tX11_knock := mTok_of (by decide +kernel) ⟨trivial, trivial, trivial, (fun z => by cases z), trivial, trivial, ⟨_, rfl, lfRX11_19⟩, ⟨_, rfl, lfRX11_117⟩, trivial, trivial, trivial, trivial, trivial, trivial, trivial, ⟨_, rfl, lfRX11_71⟩, ⟨_, rfl, lfRX11_253⟩, trivial, trivial, trivial, trivial, ⟨_, rfl, lfRX11_71⟩, trivial, trivial, trivial, trivial, trivial, trivial, trivial, ⟨_, rfl, lfRX11_71⟩, trivial, trivial, trivial, trivial⟩
def tX11_tells : List mI := [(0, .iload_n 1, 1, 0, 0), (1, .iconst 0, 1, 0, 0), (2, .iconst 1, 1, 0, 0), (3, .invokestatic 169, 3, 0, 0), (6, .ifCond .ne 5, 3, 0, 0), (9, .iconst (-1), 1, 0, 0), (10, .ireturn, 1, 0, 0), (11, .aload_n 0, 1, 0, 0), (12, .iload_n 2, 1, 0, 0), (13, .invokevirtual 250, 3, 0, 0), (16, .aload_n 0, 1, 0, 0), (17, .getfield 71, 3, 11, 10), (20, .getfield 253, 3, 10, 8), (23, .ifCond .ne 5, 3, 0, 0), (26, .iconst (-1), 1, 0, 0), (27, .ireturn, 1, 0, 0), (28, .aload_n 0, 1, 0, 0), (29, .getfield 71, 3, 11, 10), (32, .invokevirtual 280, 3, 0, 0), (35, .istore_n 3, 1, 0, 0), (36, .iload_n 1, 1, 0, 0), (37, .ifCond .ne 10, 3, 0, 0), (40, .iload_n 3, 1, 0, 0), (41, .invokestatic 283, 3, 0, 0), (44, .goto 4, 3, 0, 0), (47, .iload_n 3, 1, 0, 0), (48, .ireturn, 1, 0, 0)]
set_option maxRecDepth 100000 in
theorem kX11_tells : mTok cX11_tells RX11 4 false tX11_tells := mTok_of (by decide +kernel) ⟨trivial, trivial, trivial, (fun z => by cases z), trivial, trivial, trivial, trivial, trivial, trivial, trivial, ⟨_, rfl, lfRX11_71⟩, ⟨_, rfl, lfRX11_253⟩, trivial, trivial, trivial, trivial, ⟨_, rfl, lfRX11_71⟩, trivial, trivial, trivial, trivial, trivial, (fun z => by cases z), trivial, trivial, trivial, trivial⟩
def tX11_odds : List mI := [(0, .aload_n 0, 1, 0, 0), (1, .iload_n 1, 1, 0, 0), (2, .invokevirtual 124, 3, 0, 0), (5, .ifCond .eq 22, 3, 0, 0), (8, .iload_n 2, 1, 0, 0), (9, .iconst 0, 1, 0, 0), (10, .bipush 7, 2, 0, 0), (12, .invokestatic 169, 3, 0, 0), (15, .ifCond .eq 12, 3, 0, 0), (18, .iload_n 3, 1, 0, 0), (19, .iconst 0, 1, 0, 0), (20, .iconst 1, 1, 0, 0), (21, .invokestatic 169, 3, 0, 0), (24, .ifCond .ne 5, 3, 0, 0), (27, .iconst (-1), 1, 0, 0), (28, .ireturn, 1, 0, 0), (29, .aload_n 0, 1, 0, 0), (30, .iload 4, 2, 0, 0), (32, .invokevirtual 250, 3, 0, 0), (35, .aload_n 0, 1, 0, 0), (36, .getfield 71, 3, 11, 10), (39, .getfield 253, 3, 10, 8), (42, .aload_n 0, 1, 0, 0), (43, .getfield 71, 3, 11, 10), (46, .getfield 288, 3, 10, 0), (49, .iload_n 1, 1, 0, 0), (50, .aaload, 1, 0, 0), (51, .iload_n 2, 1, 0, 0), (52, .iaload, 1, 0, 0), (53, .invokestatic 292, 3, 0, 0), (56, .istore 5, 2, 0, 0), (58, .iload 5, 2, 0, 0), (60, .ifCond .ne 5, 3, 0, 0), (63, .iconst (-1), 1, 0, 0), (64, .ireturn, 1, 0, 0), (65, .iload_n 3, 1, 0, 0), (66, .ifCond .ne 17, 3, 0, 0), (69, .aload_n 0, 1, 0, 0), (70, .getfield 71, 3, 11, 10), (73, .getfield 288, 3, 10, 0), (76, .iload_n 1, 1, 0, 0), (77, .aaload, 1, 0, 0), (78, .iload_n 2, 1, 0, 0), (79, .iaload, 1, 0, 0), (80, .goto 10, 3, 0, 0), (83, .aload_n 0, 1, 0, 0), (84, .getfield 71, 3, 11, 10), (87, .getfield 253, 3, 10, 8), (90, .iload 5, 2, 0, 0), (92, .idiv, 1, 0, 0), (93, .ireturn, 1, 0, 0)]
set_option maxRecDepth 100000 in
theorem kX11_odds : mTok cX11_odds RX11 6 false tX11_odds := mTok_of (by decide +kernel) ⟨trivial, trivial, trivial, trivial, trivial, trivial, trivial, (fun z => by cases z), trivial, trivial, trivial, trivial, (fun z => by cases z), trivial, trivial, trivial, trivial, trivial, trivial, trivial, ⟨_, rfl, lfRX11_71⟩, ⟨_, rfl, lfRX11_253⟩, trivial, ⟨_, rfl, lfRX11_71⟩, ⟨_, rfl, lfRX11_288⟩, trivial, trivial, trivial, trivial, (fun z => by cases z), trivial, trivial, trivial, trivial, trivial, trivial, trivial, trivial, ⟨_, rfl, lfRX11_71⟩, ⟨_, rfl, lfRX11_288⟩, trivial, trivial, trivial, trivial, trivial, trivial, ⟨_, rfl, lfRX11_71⟩, ⟨_, rfl, lfRX11_253⟩, trivial, trivial, trivial, trivial⟩
def tX11_image : List mI := [(0, .iload_n 1, 1, 0, 0), (1, .iconst 0, 1, 0, 0), (2, .iconst 2, 1, 0, 0), (3, .invokestatic 169, 3, 0, 0), (6, .ifCond .ne 5, 3, 0, 0), (9, .iconst (-1), 1, 0, 0), (10, .ireturn, 1, 0, 0), (11, .aload_n 0, 1, 0, 0), (12, .getfield 36, 3, 11, 5), (15, .iload_n 1, 1, 0, 0), (16, .aload_n 0, 1, 0, 0), (17, .getfield 26, 3, 11, 3), (20, .invokevirtual 295, 3, 0, 0), (23, .aload_n 0, 1, 0, 0), (24, .getfield 26, 3, 11, 3), (27, .bipush 15, 2, 0, 0), (29, .iaload, 1, 0, 0), (30, .ireturn, 1, 0, 0)]
set_option maxRecDepth 100000 in
theorem kX11_image : mTok cX11_image RX11 2 false tX11_image := mTok_of (by decide +kernel) ⟨trivial, trivial, trivial, (fun z => by cases z), trivial, trivial, trivial, trivial, ⟨_, rfl, lfRX11_36⟩, trivial, trivial, ⟨_, rfl, lfRX11_26⟩, trivial, trivial, ⟨_, rfl, lfRX11_26⟩, trivial, trivial, trivial, trivial⟩
def tX11_back : List mI := [(0, .iload_n 1, 1, 0, 0), (1, .iconst 0, 1, 0, 0), (2, .iconst 2, 1, 0, 0), (3, .invokestatic 169, 3, 0, 0), (6, .ifCond .eq 15, 3, 0, 0), (9, .aload_n 0, 1, 0, 0), (10, .getfield 36, 3, 11, 5), (13, .getfield 299, 3, 2, 2), (16, .iload_n 1, 1, 0, 0), (17, .baload, 1, 0, 0), (18, .ifCond .ne 5, 3, 0, 0), (21, .iconst (-1), 1, 0, 0), (22, .ireturn, 1, 0, 0), (23, .aload_n 0, 1, 0, 0), (24, .getfield 36, 3, 11, 5), (27, .iload_n 1, 1, 0, 0), (28, .aload_n 0, 1, 0, 0), (29, .getfield 26, 3, 11, 3), (32, .invokevirtual 303, 3, 0, 0), (35, .aload_n 0, 1, 0, 0), (36, .getfield 36, 3, 11, 5), (39, .aload_n 0, 1, 0, 0), (40, .getfield 26, 3, 11, 3), (43, .invokevirtual 101, 3, 0, 0), (46, .aload_n 0, 1, 0, 0), (47, .getfield 26, 3, 11, 3), (50, .bipush 15, 2, 0, 0), (52, .iaload, 1, 0, 0), (53, .ireturn, 1, 0, 0)]
set_option maxRecDepth 100000 in
theorem kX11_back : mTok cX11_back RX11 2 false tX11_back := mTok_of (by decide +kernel) ⟨trivial, trivial, trivial, (fun z => by cases z), trivial, trivial, ⟨_, rfl, lfRX11_36⟩, ⟨_, rfl, lfRX11_299⟩, trivial, trivial, trivial, trivial, trivial, trivial, ⟨_, rfl, lfRX11_36⟩, trivial, trivial, ⟨_, rfl, lfRX11_26⟩, trivial, trivial, ⟨_, rfl, lfRX11_36⟩, trivial, ⟨_, rfl, lfRX11_26⟩, trivial, trivial, ⟨_, rfl, lfRX11_26⟩, trivial, trivial, trivial, trivial⟩
def tX11_about : List mI := [(0, .iload_n 1, 1, 0, 0), (1, .tableswitch 129 0 9 #[55, 63, 71, 79, 87, 95, 103, 108, 116, 124], 55, 0, 0), (56, .aload_n 0, 1, 0, 0), (57, .getfield 19, 3, 11, 1), (60, .getfield 117, 3, 8, 9), (63, .ireturn, 1, 0, 0), (64, .aload_n 0, 1, 0, 0), (65, .getfield 26, 3, 11, 3), (68, .bipush 15, 2, 0, 0), (70, .iaload, 1, 0, 0), (71, .ireturn, 1, 0, 0), (72, .aload_n 0, 1, 0, 0), (73, .getfield 26, 3, 11, 3), (76, .bipush 16, 2, 0, 0), (78, .iaload, 1, 0, 0), (79, .ireturn, 1, 0, 0), (80, .aload_n 0, 1, 0, 0), (81, .getfield 36, 3, 11, 5), (84, .getfield 306, 3, 2, 4), (87, .ireturn, 1, 0, 0), (88, .aload_n 0, 1, 0, 0), (89, .getfield 36, 3, 11, 5), (92, .getfield 309, 3, 2, 5), (95, .ireturn, 1, 0, 0), (96, .aload_n 0, 1, 0, 0), (97, .getfield 64, 3, 11, 9), (100, .getfield 107, 3, 5, 5), (103, .ireturn, 1, 0, 0), (104, .aload_n 0, 1, 0, 0), (105, .getfield 238, 3, 11, 14), (108, .ireturn, 1, 0, 0), (109, .aload_n 0, 1, 0, 0), (110, .getfield 10, 3, 11, 0), (113, .getfield 85, 3, 4, 1), (116, .ireturn, 1, 0, 0), (117, .aload_n 0, 1, 0, 0), (118, .getfield 19, 3, 11, 1), (121, .invokevirtual 312, 3, 0, 0), (124, .ireturn, 1, 0, 0), (125, .aload_n 0, 1, 0, 0), (126, .getfield 114, 3, 11, 13), (129, .ireturn, 1, 0, 0), (130, .iconst (-1), 1, 0, 0), (131, .ireturn, 1, 0, 0)]
set_option maxRecDepth 100000 in
theorem kX11_about : mTok cX11_about RX11 2 false tX11_about := mTok_of (by decide +kernel) ⟨trivial, trivial, trivial, ⟨_, rfl, lfRX11_19⟩, ⟨_, rfl, lfRX11_117⟩, trivial, trivial, ⟨_, rfl, lfRX11_26⟩, trivial, trivial, trivial, trivial, ⟨_, rfl, lfRX11_26⟩, trivial, trivial, trivial, trivial, ⟨_, rfl, lfRX11_36⟩, ⟨_, rfl, lfRX11_306⟩, trivial, trivial, ⟨_, rfl, lfRX11_36⟩, ⟨_, rfl, lfRX11_309⟩, trivial, trivial, ⟨_, rfl, lfRX11_64⟩, ⟨_, rfl, lfRX11_107⟩, trivial, trivial, ⟨_, rfl, lfRX11_238⟩, trivial, trivial, ⟨_, rfl, lfRX11_10⟩, ⟨_, rfl, lfRX11_85⟩, trivial, trivial, ⟨_, rfl, lfRX11_19⟩, trivial, trivial, trivial, ⟨_, rfl, lfRX11_114⟩, trivial, trivial, trivial, trivial⟩
def tX11_isHouse : List mI := [(0, .iload_n 1, 1, 0, 0), (1, .ifCond .lt 18, 3, 0, 0), (4, .iload_n 1, 1, 0, 0), (5, .aload_n 0, 1, 0, 0), (6, .getfield 19, 3, 11, 1), (9, .getfield 117, 3, 8, 9), (12, .if_icmp .ge 7, 3, 0, 0), (15, .iconst 1, 1, 0, 0), (16, .goto 4, 3, 0, 0), (19, .iconst 0, 1, 0, 0), (20, .ireturn, 1, 0, 0)]
set_option maxRecDepth 100000 in
theorem kX11_isHouse : mTok cX11_isHouse RX11 2 false tX11_isHouse := mTok_of (by decide +kernel) ⟨trivial, trivial, trivial, trivial, ⟨_, rfl, lfRX11_19⟩, ⟨_, rfl, lfRX11_117⟩, trivial, trivial, trivial, trivial, trivial, trivial⟩
def tX11_isWithin : List mI := [(0, .iload_n 0, 1, 0, 0), (1, .iload_n 1, 1, 0, 0), (2, .if_icmp .lt 12, 3, 0, 0), (5, .iload_n 0, 1, 0, 0), (6, .iload_n 2, 1, 0, 0), (7, .if_icmp .gt 7, 3, 0, 0), (10, .iconst 1, 1, 0, 0), (11, .goto 4, 3, 0, 0), (14, .iconst 0, 1, 0, 0), (15, .ireturn, 1, 0, 0)]
set_option maxRecDepth 100000 in
theorem kX11_isWithin : mTok cX11_isWithin RX11 3 false tX11_isWithin := mTok_of (by decide +kernel) ⟨trivial, trivial, trivial, trivial, trivial, trivial, trivial, trivial, trivial, trivial, trivial⟩
def tX11_limited : List mI := [(0, .iload_n 1, 1, 0, 0), (1, .iload_n 2, 1, 0, 0), (2, .iload_n 0, 1, 0, 0), (3, .invokestatic 315, 3, 0, 0), (6, .invokestatic 320, 3, 0, 0), (9, .ireturn, 1, 0, 0)]
set_option maxRecDepth 100000 in
theorem kX11_limited : mTok cX11_limited RX11 3 false tX11_limited := mTok_of (by decide +kernel) ⟨trivial, trivial, trivial, (fun z => by cases z), (fun z => by cases z), trivial, trivial⟩
def tX11_sumOf : List mI := [(0, .iconst 0, 1, 0, 0), (1, .istore_n 2, 1, 0, 0), (2, .iconst 0, 1, 0, 0), (3, .istore_n 3, 1, 0, 0), (4, .iload_n 3, 1, 0, 0), (5, .aload_n 0, 1, 0, 0), (6, .getfield 19, 3, 11, 1), (9, .getfield 117, 3, 8, 9), (12, .if_icmp .ge 18, 3, 0, 0), (15, .iload_n 2, 1, 0, 0), (16, .aload_n 0, 1, 0, 0), (17, .iload_n 3, 1, 0, 0), (18, .iload_n 1, 1, 0, 0), (19, .invokevirtual 323, 3, 0, 0), (22, .iadd, 1, 0, 0), (23, .istore_n 2, 1, 0, 0), (24, .iinc 3 1, 3, 0, 0), (27, .goto (-23), 3, 0, 0), (30, .iload_n 2, 1, 0, 0), (31, .ireturn, 1, 0, 0)]
set_option maxRecDepth 100000 in
theorem kX11_sumOf : mTok cX11_sumOf RX11 4 false tX11_sumOf := mTok_of (by decide +kernel) ⟨trivial, trivial, trivial, trivial, trivial, trivial, ⟨_, rfl, lfRX11_19⟩, ⟨_, rfl, lfRX11_117⟩, trivial, trivial, trivial, trivial, trivial, trivial, trivial, trivial, trivial, trivial, trivial, trivial, trivial⟩
def tX11_allBowls : List mI := [(0, .iconst 0, 1, 0, 0), (1, .istore_n 2, 1, 0, 0), (2, .iconst 0, 1, 0, 0), (3, .istore_n 3, 1, 0, 0), (4, .iload_n 3, 1, 0, 0), (5, .aload_n 0, 1, 0, 0), (6, .getfield 19, 3, 11, 1), (9, .getfield 117, 3, 8, 9), (12, .if_icmp .ge 18, 3, 0, 0), (15, .iload_n 2, 1, 0, 0), (16, .aload_n 1, 1, 0, 0), (17, .bipush 10, 2, 0, 0), (19, .iload_n 3, 1, 0, 0), (20, .iadd, 1, 0, 0), (21, .iaload, 1, 0, 0), (22, .iadd, 1, 0, 0), (23, .istore_n 2, 1, 0, 0), (24, .iinc 3 1, 3, 0, 0), (27, .goto (-23), 3, 0, 0), (30, .iload_n 2, 1, 0, 0), (31, .ireturn, 1, 0, 0)]
set_option maxRecDepth 100000 in
theorem kX11_allBowls : mTok cX11_allBowls RX11 4 false tX11_allBowls := mTok_of (by decide +kernel) ⟨trivial, trivial, trivial, trivial, trivial, trivial, ⟨_, rfl, lfRX11_19⟩, ⟨_, rfl, lfRX11_117⟩, trivial, trivial, trivial, trivial, trivial, trivial, trivial, trivial, trivial, trivial, trivial, trivial, trivial, trivial⟩
def tX11_fullest : List mI := [(0, .iconst 0, 1, 0, 0), (1, .istore_n 2, 1, 0, 0), (2, .iconst 1, 1, 0, 0), (3, .istore_n 3, 1, 0, 0), (4, .iload_n 3, 1, 0, 0), (5, .aload_n 0, 1, 0, 0), (6, .getfield 19, 3, 11, 1), (9, .getfield 117, 3, 8, 9), (12, .if_icmp .ge 24, 3, 0, 0), (15, .aload_n 1, 1, 0, 0), (16, .iconst 0, 1, 0, 0), (17, .iload_n 3, 1, 0, 0), (18, .iadd, 1, 0, 0), (19, .iaload, 1, 0, 0), (20, .aload_n 1, 1, 0, 0), (21, .iconst 0, 1, 0, 0), (22, .iload_n 2, 1, 0, 0), (23, .iadd, 1, 0, 0), (24, .iaload, 1, 0, 0), (25, .if_icmp .le 5, 3, 0, 0), (28, .iload_n 3, 1, 0, 0), (29, .istore_n 2, 1, 0, 0), (30, .iinc 3 1, 3, 0, 0), (33, .goto (-29), 3, 0, 0), (36, .iload_n 2, 1, 0, 0), (37, .ireturn, 1, 0, 0)]
set_option maxRecDepth 100000 in
theorem kX11_fullest : mTok cX11_fullest RX11 4 false tX11_fullest := mTok_of (by decide +kernel) ⟨trivial, trivial, trivial, trivial, trivial, trivial, ⟨_, rfl, lfRX11_19⟩, ⟨_, rfl, lfRX11_117⟩, trivial, trivial, trivial, trivial, trivial, trivial, trivial, trivial, trivial, trivial, trivial, trivial, trivial, trivial, trivial, trivial, trivial, trivial, trivial⟩
def tX11_leaveOne : List mI := [(0, .aload_n 0, 1, 0, 0), (1, .getfield 26, 3, 11, 3), (4, .iconst 0, 1, 0, 0), (5, .iload_n 1, 1, 0, 0), (6, .iadd, 1, 0, 0), (7, .dup2, 1, 0, 0), (8, .iaload, 1, 0, 0), (9, .iconst 1, 1, 0, 0), (10, .isub, 1, 0, 0), (11, .iastore, 1, 0, 0), (12, .aload_n 0, 1, 0, 0), (13, .getfield 26, 3, 11, 3), (16, .iconst 5, 1, 0, 0), (17, .iload_n 1, 1, 0, 0), (18, .iadd, 1, 0, 0), (19, .aload_n 0, 1, 0, 0), (20, .getfield 26, 3, 11, 3), (23, .iconst 5, 1, 0, 0), (24, .iload_n 1, 1, 0, 0), (25, .iadd, 1, 0, 0), (26, .iaload, 1, 0, 0), (27, .aload_n 0, 1, 0, 0), (28, .getfield 26, 3, 11, 3), (31, .iconst 0, 1, 0, 0), (32, .iload_n 1, 1, 0, 0), (33, .iadd, 1, 0, 0), (34, .iaload, 1, 0, 0), (35, .invokestatic 315, 3, 0, 0), (38, .iastore, 1, 0, 0), (39, .return_, 1, 0, 0)]
set_option maxRecDepth 100000 in
theorem kX11_leaveOne : mTok cX11_leaveOne RX11 2 false tX11_leaveOne := mTok_of (by decide +kernel) ⟨trivial, ⟨_, rfl, lfRX11_26⟩, trivial, trivial, trivial, trivial, trivial, trivial, trivial, trivial, trivial, ⟨_, rfl, lfRX11_26⟩, trivial, trivial, trivial, trivial, ⟨_, rfl, lfRX11_26⟩, trivial, trivial, trivial, trivial, trivial, ⟨_, rfl, lfRX11_26⟩, trivial, trivial, trivial, trivial, (fun z => by cases z), trivial, trivial, trivial⟩
def tX11_foresee : List mI := [(0, .aload_n 0, 1, 0, 0), (1, .getfield 26, 3, 11, 3), (4, .iconst 0, 1, 0, 0), (5, .aload_n 0, 1, 0, 0), (6, .getfield 30, 3, 11, 4), (9, .iconst 0, 1, 0, 0), (10, .bipush 17, 2, 0, 0), (12, .invokestatic 223, 3, 0, 7777), (15, .iconst 0, 1, 0, 0), (16, .istore_n 2, 1, 0, 0), (17, .iload_n 2, 1, 0, 0), (18, .iload_n 1, 1, 0, 0), (19, .if_icmp .ge 20, 3, 0, 0), (22, .aload_n 0, 1, 0, 0), (23, .getfield 19, 3, 11, 1), (26, .aload_n 0, 1, 0, 0), (27, .getfield 30, 3, 11, 4), (30, .invokevirtual 155, 3, 0, 0), (33, .iinc 2 1, 3, 0, 0), (36, .goto (-19), 3, 0, 0), (39, .return_, 1, 0, 0)]
set_option maxRecDepth 100000 in
theorem kX11_foresee : mTok cX11_foresee RX11 3 false tX11_foresee := mTok_of (by decide +kernel) ⟨trivial, ⟨_, rfl, lfRX11_26⟩, trivial, trivial, ⟨_, rfl, lfRX11_30⟩, trivial, trivial, (fun _ => lmRX11_223), trivial, trivial, trivial, trivial, trivial, trivial, ⟨_, rfl, lfRX11_19⟩, trivial, ⟨_, rfl, lfRX11_30⟩, trivial, trivial, trivial, trivial, trivial⟩
def tX11_lay : List mI := [(0, .aload_n 0, 1, 0, 0), (1, .iload_n 2, 1, 0, 0), (2, .aload_n 1, 1, 0, 0), (3, .arraylength, 1, 0, 0), (4, .bipush 8, 2, 0, 0), (6, .invokestatic 315, 3, 0, 0), (9, .invokestatic 315, 3, 0, 0), (12, .putfield 114, 3, 11, 13), (15, .aload_n 1, 1, 0, 0), (16, .iconst 0, 1, 0, 0), (17, .aload_n 0, 1, 0, 0), (18, .getfield 82, 3, 11, 12), (21, .iconst 0, 1, 0, 0), (22, .aload_n 0, 1, 0, 0), (23, .getfield 114, 3, 11, 13), (26, .invokestatic 223, 3, 0, 7777), (29, .return_, 1, 0, 0)]
set_option maxRecDepth 100000 in
theorem kX11_lay : mTok cX11_lay RX11 3 false tX11_lay := mTok_of (by decide +kernel) ⟨trivial, trivial, trivial, trivial, trivial, (fun z => by cases z), (fun z => by cases z), ⟨_, rfl, lfRX11_114, (fun z => by cases z)⟩, trivial, trivial, trivial, ⟨_, rfl, lfRX11_82⟩, trivial, trivial, ⟨_, rfl, lfRX11_114⟩, (fun _ => lmRX11_223), trivial, trivial⟩
def tX11_learn : List mI := [(0, .aload_n 0, 1, 0, 0), (1, .getfield 71, 3, 11, 10), (4, .aload_n 0, 1, 0, 0), (5, .getfield 64, 3, 11, 9), (8, .aload_n 0, 1, 0, 0), (9, .getfield 64, 3, 11, 9), (12, .iload_n 1, 1, 0, 0), (13, .invokevirtual 262, 3, 0, 0), (16, .aload_n 0, 1, 0, 0), (17, .getfield 19, 3, 11, 1), (20, .getfield 117, 3, 8, 9), (23, .invokevirtual 326, 3, 0, 0), (26, .return_, 1, 0, 0)]
set_option maxRecDepth 100000 in
theorem kX11_learn : mTok cX11_learn RX11 2 false tX11_learn := mTok_of (by decide +kernel) ⟨trivial, ⟨_, rfl, lfRX11_71⟩, trivial, ⟨_, rfl, lfRX11_64⟩, trivial, ⟨_, rfl, lfRX11_64⟩, trivial, trivial, trivial, ⟨_, rfl, lfRX11_19⟩, ⟨_, rfl, lfRX11_117⟩, trivial, trivial, trivial⟩
def tX11_commonDivisor : List mI := [(0, .iload_n 0, 1, 0, 0), (1, .istore_n 2, 1, 0, 0), (2, .iload_n 1, 1, 0, 0), (3, .istore_n 3, 1, 0, 0), (4, .iconst 0, 1, 0, 0), (5, .istore 4, 2, 0, 0), (7, .iload 4, 2, 0, 0), (9, .bipush 64, 2, 0, 0), (11, .if_icmp .ge 23, 3, 0, 0), (14, .iload_n 3, 1, 0, 0), (15, .ifCond .eq 19, 3, 0, 0), (18, .iload_n 2, 1, 0, 0), (19, .iload_n 3, 1, 0, 0), (20, .irem, 1, 0, 0), (21, .istore 5, 2, 0, 0), (23, .iload_n 3, 1, 0, 0), (24, .istore_n 2, 1, 0, 0), (25, .iload 5, 2, 0, 0), (27, .istore_n 3, 1, 0, 0), (28, .iinc 4 1, 3, 0, 0), (31, .goto (-24), 3, 0, 0), (34, .iload_n 2, 1, 0, 0), (35, .ireturn, 1, 0, 0)]
set_option maxRecDepth 100000 in
theorem kX11_commonDivisor : mTok cX11_commonDivisor RX11 6 false tX11_commonDivisor := mTok_of (by decide +kernel) ⟨trivial, trivial, trivial, trivial, trivial, trivial, trivial, trivial, trivial, trivial, trivial, trivial, trivial, trivial, trivial, trivial, trivial, trivial, trivial, trivial, trivial, trivial, trivial, trivial⟩
end
section
def tX12_init : List mI := [(0, .aload_n 0, 1, 0, 0), (1, .invokespecial 1, 3, 0, 8888), (4, .aload_n 0, 1, 0, 0), (5, .sipush 1600, 3, 0, 0), (8, .newarray .int, 2, 0, 0), (10, .putfield 7, 3, 12, 0), (13, .aload_n 0, 1, 0, 0), (14, .iconst (-1), 1, 0, 0), (15, .putfield 13, 3, 12, 3), (18, .aload_n 0, 1, 0, 0), (19, .iconst 5, 1, 0, 0), (20, .newarray .long, 2, 0, 0), (22, .putfield 17, 3, 12, 10), (25, .aload_n 0, 1, 0, 0), (26, .sipush 960, 3, 0, 0), (29, .newarray .int, 2, 0, 0), (31, .putfield 21, 3, 12, 11), (34, .aload_n 0, 1, 0, 0), (35, .sipush 960, 3, 0, 0), (38, .newarray .int, 2, 0, 0), (40, .putfield 24, 3, 12, 12), (43, .aload_n 0, 1, 0, 0), (44, .iconst 3, 1, 0, 0), (45, .newarray .int, 2, 0, 0), (47, .putfield 27, 3, 12, 13), (50, .aload_n 0, 1, 0, 0), (51, .sipush 960, 3, 0, 0), (54, .newarray .int, 2, 0, 0), (56, .putfield 30, 3, 12, 14), (59, .aload_n 0, 1, 0, 0), (60, .sipush 960, 3, 0, 0), (63, .newarray .int, 2, 0, 0), (65, .putfield 33, 3, 12, 15), (68, .aload_n 0, 1, 0, 0), (69, .iconst 3, 1, 0, 0), (70, .newarray .int, 2, 0, 0), (72, .putfield 36, 3, 12, 16), (75, .aload_n 0, 1, 0, 0), (76, .sipush 160, 3, 0, 0), (79, .newarray .int, 2, 0, 0), (81, .putfield 39, 3, 12, 17), (84, .aload_n 0, 1, 0, 0), (85, .bipush 64, 2, 0, 0), (87, .newarray .int, 2, 0, 0), (89, .putfield 42, 3, 12, 18), (92, .aload_n 0, 1, 0, 0), (93, .iconst 3, 1, 0, 0), (94, .newarray .boolean, 2, 0, 0), (96, .putfield 45, 3, 12, 19), (99, .aload_n 0, 1, 0, 0), (100, .iconst 3, 1, 0, 0), (101, .newarray .boolean, 2, 0, 0), (103, .putfield 49, 3, 12, 20), (106, .aload_n 0, 1, 0, 0), (107, .bipush 6, 2, 0, 0), (109, .newarray .int, 2, 0, 0), (111, .putfield 52, 3, 12, 27), (114, .aload_n 0, 1, 0, 0), (115, .iconst 5, 1, 0, 0), (116, .newarray .int, 2, 0, 0), (118, .putfield 55, 3, 12, 28), (121, .aload_n 0, 1, 0, 0), (122, .iconst 5, 1, 0, 0), (123, .newarray .int, 2, 0, 0), (125, .putfield 58, 3, 12, 29), (128, .aload_n 0, 1, 0, 0), (129, .iconst 5, 1, 0, 0), (130, .newarray .int, 2, 0, 0), (132, .putfield 61, 3, 12, 30), (135, .aload_n 0, 1, 0, 0), (136, .iconst 5, 1, 0, 0), (137, .newarray .int, 2, 0, 0), (139, .putfield 64, 3, 12, 31), (142, .aload_n 0, 1, 0, 0), (143, .iconst 5, 1, 0, 0), (144, .newarray .int, 2, 0, 0), (146, .putfield 67, 3, 12, 32), (149, .aload_n 0, 1, 0, 0), (150, .iconst 5, 1, 0, 0), (151, .newarray .int, 2, 0, 0), (153, .putfield 70, 3, 12, 33), (156, .aload_n 0, 1, 0, 0), (157, .iconst 5, 1, 0, 0), (158, .newarray .int, 2, 0, 0), (160, .putfield 73, 3, 12, 34), (163, .aload_n 0, 1, 0, 0), (164, .bipush 18, 2, 0, 0), (166, .newarray .int, 2, 0, 0), (168, .putfield 76, 3, 12, 39), (171, .aload_n 0, 1, 0, 0), (172, .iconst 5, 1, 0, 0), (173, .newarray .int, 2, 0, 0), (175, .putfield 79, 3, 12, 40), (178, .aload_n 0, 1, 0, 0), (179, .iconst 5, 1, 0, 0), (180, .newarray .int, 2, 0, 0), (182, .putfield 82, 3, 12, 41), (185, .aload_n 0, 1, 0, 0), (186, .iconst 5, 1, 0, 0), (187, .newarray .int, 2, 0, 0), (189, .putfield 85, 3, 12, 42), (192, .aload_n 0, 1, 0, 0), (193, .sipush 720, 3, 0, 0), (196, .newarray .int, 2, 0, 0), (198, .putfield 88, 3, 12, 45), (201, .aload_n 0, 1, 0, 0), (202, .bipush 40, 2, 0, 0), (204, .newarray .int, 2, 0, 0), (206, .putfield 91, 3, 12, 48), (209, .aload_n 0, 1, 0, 0), (210, .iconst 5, 1, 0, 0), (211, .newarray .int, 2, 0, 0), (213, .putfield 94, 3, 12, 49), (216, .aload_n 0, 1, 0, 0), (217, .bipush 16, 2, 0, 0), (219, .newarray .int, 2, 0, 0), (221, .putfield 97, 3, 12, 50), (224, .aload_n 0, 1, 0, 0), (225, .iconst 5, 1, 0, 0), (226, .newarray .int, 2, 0, 0), (228, .putfield 100, 3, 12, 53), (231, .aload_n 0, 1, 0, 0), (232, .iconst 5, 1, 0, 0), (233, .newarray .int, 2, 0, 0), (235, .putfield 103, 3, 12, 54), (238, .aload_n 0, 1, 0, 0), (239, .iconst 5, 1, 0, 0), (240, .newarray .int, 2, 0, 0), (242, .putfield 106, 3, 12, 55), (245, .aload_n 0, 1, 0, 0), (246, .iconst 5, 1, 0, 0), (247, .newarray .int, 2, 0, 0), (249, .putfield 109, 3, 12, 56), (252, .aload_n 0, 1, 0, 0), (253, .iconst 5, 1, 0, 0), (254, .newarray .int, 2, 0, 0), (256, .putfield 112, 3, 12, 57), (259, .aload_n 0, 1, 0, 0), (260, .bipush 32, 2, 0, 0), (262, .newarray .int, 2, 0, 0), (264, .putfield 115, 3, 12, 58), (267, .aload_n 0, 1, 0, 0), (268, .bipush 32, 2, 0, 0), (270, .newarray .int, 2, 0, 0), (272, .putfield 118, 3, 12, 59), (275, .aload_n 0, 1, 0, 0), (276, .bipush 32, 2, 0, 0), (278, .newarray .int, 2, 0, 0), (280, .putfield 121, 3, 12, 60), (283, .aload_n 0, 1, 0, 0), (284, .bipush 30, 2, 0, 0), (286, .newarray .int, 2, 0, 0), (288, .putfield 124, 3, 12, 61), (291, .aload_n 0, 1, 0, 0), (292, .bipush 30, 2, 0, 0), (294, .newarray .int, 2, 0, 0), (296, .putfield 127, 3, 12, 62), (299, .aload_n 0, 1, 0, 0), (300, .bipush 30, 2, 0, 0), (302, .newarray .int, 2, 0, 0), (304, .putfield 130, 3, 12, 63), (307, .aload_n 0, 1, 0, 0), (308, .bipush 30, 2, 0, 0), (310, .newarray .int, 2, 0, 0), (312, .putfield 133, 3, 12, 64), (315, .aload_n 0, 1, 0, 0), (316, .bipush 30, 2, 0, 0), (318, .newarray .int, 2, 0, 0), (320, .putfield 136, 3, 12, 65), (323, .aload_n 0, 1, 0, 0), (324, .bipush 40, 2, 0, 0), (326, .newarray .int, 2, 0, 0), (328, .putfield 139, 3, 12, 68), (331, .aload_n 0, 1, 0, 0), (332, .ldc 142, 2, 32768, 0), (334, .newarray .boolean, 2, 0, 0), (336, .putfield 143, 3, 12, 70), (339, .aload_n 0, 1, 0, 0), (340, .iconst 3, 1, 0, 0), (341, .newarray .boolean, 2, 0, 0), (343, .putfield 146, 3, 12, 71), (346, .aload_n 0, 1, 0, 0), (347, .bipush 54, 2, 0, 0), (349, .newarray .int, 2, 0, 0), (351, .putfield 149, 3, 12, 72), (354, .return_, 1, 0, 0)]
set_option maxRecDepth 100000 in
theorem kX12_init : mTok cX12_init RX12 1 true tX12_init := mTok_of (by decide +kernel) ⟨trivial, (fun _ => lmRX12_1), trivial, trivial, ⟨la_int, by decide⟩, ⟨_, rfl, lfRX12_7, fun _ => rfl⟩, trivial, trivial, ⟨_, rfl, lfRX12_13, (fun z => by cases z)⟩, trivial, trivial, ⟨la_long, by decide⟩, ⟨_, rfl, lfRX12_17, fun _ => rfl⟩, trivial, trivial, ⟨la_int, by decide⟩, ⟨_, rfl, lfRX12_21, fun _ => rfl⟩, trivial, trivial, ⟨la_int, by decide⟩, ⟨_, rfl, lfRX12_24, fun _ => rfl⟩, trivial, trivial, ⟨la_int, by decide⟩, ⟨_, rfl, lfRX12_27, fun _ => rfl⟩, trivial, trivial, ⟨la_int, by decide⟩, ⟨_, rfl, lfRX12_30, fun _ => rfl⟩, trivial, trivial, ⟨la_int, by decide⟩, ⟨_, rfl, lfRX12_33, fun _ => rfl⟩, trivial, trivial, ⟨la_int, by decide⟩, ⟨_, rfl, lfRX12_36, fun _ => rfl⟩, trivial, trivial, ⟨la_int, by decide⟩, ⟨_, rfl, lfRX12_39, fun _ => rfl⟩, trivial, trivial, ⟨la_int, by decide⟩, ⟨_, rfl, lfRX12_42, fun _ => rfl⟩, trivial, trivial, ⟨la_boolean, by decide⟩, ⟨_, rfl, lfRX12_45, fun _ => rfl⟩, trivial, trivial, ⟨la_boolean, by decide⟩, ⟨_, rfl, lfRX12_49, fun _ => rfl⟩, trivial, trivial, ⟨la_int, by decide⟩, ⟨_, rfl, lfRX12_52, fun _ => rfl⟩, trivial, trivial, ⟨la_int, by decide⟩, ⟨_, rfl, lfRX12_55, fun _ => rfl⟩, trivial, trivial, ⟨la_int, by decide⟩, ⟨_, rfl, lfRX12_58, fun _ => rfl⟩, trivial, trivial, ⟨la_int, by decide⟩, ⟨_, rfl, lfRX12_61, fun _ => rfl⟩, trivial, trivial, ⟨la_int, by decide⟩, ⟨_, rfl, lfRX12_64, fun _ => rfl⟩, trivial, trivial, ⟨la_int, by decide⟩, ⟨_, rfl, lfRX12_67, fun _ => rfl⟩, trivial, trivial, ⟨la_int, by decide⟩, ⟨_, rfl, lfRX12_70, fun _ => rfl⟩, trivial, trivial, ⟨la_int, by decide⟩, ⟨_, rfl, lfRX12_73, fun _ => rfl⟩, trivial, trivial, ⟨la_int, by decide⟩, ⟨_, rfl, lfRX12_76, fun _ => rfl⟩, trivial, trivial, ⟨la_int, by decide⟩, ⟨_, rfl, lfRX12_79, fun _ => rfl⟩, trivial, trivial, ⟨la_int, by decide⟩, ⟨_, rfl, lfRX12_82, fun _ => rfl⟩, trivial, trivial, ⟨la_int, by decide⟩, ⟨_, rfl, lfRX12_85, fun _ => rfl⟩, trivial, trivial, ⟨la_int, by decide⟩, ⟨_, rfl, lfRX12_88, fun _ => rfl⟩, trivial, trivial, ⟨la_int, by decide⟩, ⟨_, rfl, lfRX12_91, fun _ => rfl⟩, trivial, trivial, ⟨la_int, by decide⟩, ⟨_, rfl, lfRX12_94, fun _ => rfl⟩, trivial, trivial, ⟨la_int, by decide⟩, ⟨_, rfl, lfRX12_97, fun _ => rfl⟩, trivial, trivial, ⟨la_int, by decide⟩, ⟨_, rfl, lfRX12_100, fun _ => rfl⟩, trivial, trivial, ⟨la_int, by decide⟩, ⟨_, rfl, lfRX12_103, fun _ => rfl⟩, trivial, trivial, ⟨la_int, by decide⟩, ⟨_, rfl, lfRX12_106, fun _ => rfl⟩, trivial, trivial, ⟨la_int, by decide⟩, ⟨_, rfl, lfRX12_109, fun _ => rfl⟩, trivial, trivial, ⟨la_int, by decide⟩, ⟨_, rfl, lfRX12_112, fun _ => rfl⟩, trivial, trivial, ⟨la_int, by decide⟩, ⟨_, rfl, lfRX12_115, fun _ => rfl⟩, trivial, trivial, ⟨la_int, by decide⟩, ⟨_, rfl, lfRX12_118, fun _ => rfl⟩, trivial, trivial, ⟨la_int, by decide⟩, ⟨_, rfl, lfRX12_121, fun _ => rfl⟩, trivial, trivial, ⟨la_int, by decide⟩, ⟨_, rfl, lfRX12_124, fun _ => rfl⟩, trivial, trivial, ⟨la_int, by decide⟩, ⟨_, rfl, lfRX12_127, fun _ => rfl⟩, trivial, trivial, ⟨la_int, by decide⟩, ⟨_, rfl, lfRX12_130, fun _ => rfl⟩, trivial, trivial, ⟨la_int, by decide⟩, ⟨_, rfl, lfRX12_133, fun _ => rfl⟩, trivial, trivial, ⟨la_int, by decide⟩, ⟨_, rfl, lfRX12_136, fun _ => rfl⟩, trivial, trivial, ⟨la_int, by decide⟩, ⟨_, rfl, lfRX12_139, fun _ => rfl⟩, trivial, lcRX12_142, ⟨la_boolean, by decide⟩, ⟨_, rfl, lfRX12_143, fun _ => rfl⟩, trivial, trivial, ⟨la_boolean, by decide⟩, ⟨_, rfl, lfRX12_146, fun _ => rfl⟩, trivial, trivial, ⟨la_int, by decide⟩, ⟨_, rfl, lfRX12_149, fun _ => rfl⟩, trivial, trivial⟩
def tX12_feed : List mI := [(0, .aload_n 0, 1, 0, 0), (1, .getfield 152, 3, 12, 1), (4, .bipush 20, 2, 0, 0), (6, .iadd, 1, 0, 0), (7, .sipush 1600, 3, 0, 0), (10, .if_icmp .le 5, 3, 0, 0), (13, .iconst (-1), 1, 0, 0), (14, .ireturn, 1, 0, 0), (15, .aload_n 0, 1, 0, 0), (16, .iload_n 1, 1, 0, 0), (17, .invokevirtual 155, 3, 0, 0), (20, .aload_n 0, 1, 0, 0), (21, .iload_n 2, 1, 0, 0), (22, .invokevirtual 155, 3, 0, 0), (25, .aload_n 0, 1, 0, 0), (26, .iload_n 3, 1, 0, 0), (27, .invokevirtual 155, 3, 0, 0), (30, .aload_n 0, 1, 0, 0), (31, .iload 4, 2, 0, 0), (33, .invokevirtual 155, 3, 0, 0), (36, .aload_n 0, 1, 0, 0), (37, .iload 5, 2, 0, 0), (39, .invokevirtual 155, 3, 0, 0), (42, .aload_n 0, 1, 0, 0), (43, .getfield 152, 3, 12, 1), (46, .ireturn, 1, 0, 0)]
set_option maxRecDepth 100000 in
theorem kX12_feed : mTok cX12_feed RX12 6 false tX12_feed := mTok_of (by decide +kernel) ⟨trivial, ⟨_, rfl, lfRX12_152⟩, trivial, trivial, trivial, trivial, trivial, trivial, trivial, trivial, trivial, trivial, trivial, trivial, trivial, trivial, trivial, trivial, trivial, trivial, trivial, trivial, trivial, trivial, ⟨_, rfl, lfRX12_152⟩, trivial, trivial⟩
def tX12_four : List mI := [(0, .bipush 24, 2, 0, 0), (2, .istore_n 2, 1, 0, 0), (3, .iload_n 2, 1, 0, 0), (4, .ifCond .lt 35, 3, 0, 0), (7, .aload_n 0, 1, 0, 0), (8, .getfield 7, 3, 12, 0), (11, .aload_n 0, 1, 0, 0), (12, .getfield 152, 3, 12, 1), (15, .iload_n 1, 1, 0, 0), (16, .iload_n 2, 1, 0, 0), (17, .ishr, 1, 0, 0), (18, .sipush 255, 3, 0, 0), (21, .iand, 1, 0, 0), (22, .iastore, 1, 0, 0), (23, .aload_n 0, 1, 0, 0), (24, .dup, 1, 0, 0), (25, .getfield 152, 3, 12, 1), (28, .iconst 1, 1, 0, 0), (29, .iadd, 1, 0, 0), (30, .putfield 152, 3, 12, 1), (33, .iinc 2 (-8), 3, 0, 0), (36, .goto (-33), 3, 0, 0), (39, .return_, 1, 0, 0)]
set_option maxRecDepth 100000 in
theorem kX12_four : mTok cX12_four RX12 3 false tX12_four := mTok_of (by decide +kernel) ⟨trivial, trivial, trivial, trivial, trivial, ⟨_, rfl, lfRX12_7⟩, trivial, ⟨_, rfl, lfRX12_152⟩, trivial, trivial, trivial, trivial, trivial, trivial, trivial, trivial, ⟨_, rfl, lfRX12_152⟩, trivial, trivial, ⟨_, rfl, lfRX12_152, (fun z => by cases z)⟩, trivial, trivial, trivial, trivial⟩
def tX12_end : List mI := [(0, .iload_n 1, 1, 0, 0), (1, .ifCond .lt 11, 3, 0, 0), (4, .iload_n 1, 1, 0, 0), (5, .aload_n 0, 1, 0, 0), (6, .getfield 152, 3, 12, 1), (9, .if_icmp .le 5, 3, 0, 0), (12, .iconst (-1), 1, 0, 0), (13, .ireturn, 1, 0, 0), (14, .aload_n 0, 1, 0, 0), (15, .iload_n 1, 1, 0, 0), (16, .putfield 152, 3, 12, 1), (19, .iload_n 1, 1, 0, 0), (20, .ireturn, 1, 0, 0)]
set_option maxRecDepth 100000 in
theorem kX12_end : mTok cX12_end RX12 2 false tX12_end := mTok_of (by decide +kernel) ⟨trivial, trivial, trivial, trivial, ⟨_, rfl, lfRX12_152⟩, trivial, trivial, trivial, trivial, trivial, ⟨_, rfl, lfRX12_152, (fun z => by cases z)⟩, trivial, trivial, trivial⟩
def tX12_here : List mI := [(0, .aload_n 0, 1, 0, 0), (1, .getfield 159, 3, 12, 4), (4, .iload_n 1, 1, 0, 0), (5, .iadd, 1, 0, 0), (6, .aload_n 0, 1, 0, 0), (7, .getfield 162, 3, 12, 5), (10, .if_icmp .ge 17, 3, 0, 0), (13, .aload_n 0, 1, 0, 0), (14, .getfield 7, 3, 12, 0), (17, .aload_n 0, 1, 0, 0), (18, .getfield 159, 3, 12, 4), (21, .iload_n 1, 1, 0, 0), (22, .iadd, 1, 0, 0), (23, .iaload, 1, 0, 0), (24, .goto 4, 3, 0, 0), (27, .iconst (-1), 1, 0, 0), (28, .ireturn, 1, 0, 0)]
set_option maxRecDepth 100000 in
theorem kX12_here : mTok cX12_here RX12 2 false tX12_here := mTok_of (by decide +kernel) ⟨trivial, ⟨_, rfl, lfRX12_159⟩, trivial, trivial, trivial, ⟨_, rfl, lfRX12_162⟩, trivial, trivial, ⟨_, rfl, lfRX12_7⟩, trivial, ⟨_, rfl, lfRX12_159⟩, trivial, trivial, trivial, trivial, trivial, trivial, trivial⟩
def tX12_isLetter : List mI := [(0, .iload_n 0, 1, 0, 0), (1, .bipush 97, 2, 0, 0), (3, .if_icmp .lt 13, 3, 0, 0), (6, .iload_n 0, 1, 0, 0), (7, .bipush 122, 2, 0, 0), (9, .if_icmp .gt 7, 3, 0, 0), (12, .iconst 1, 1, 0, 0), (13, .goto 4, 3, 0, 0), (16, .iconst 0, 1, 0, 0), (17, .ireturn, 1, 0, 0)]
set_option maxRecDepth 100000 in
theorem kX12_isLetter : mTok cX12_isLetter RX12 1 false tX12_isLetter := mTok_of (by decide +kernel) ⟨trivial, trivial, trivial, trivial, trivial, trivial, trivial, trivial, trivial, trivial, trivial⟩
def tX12_isDigit : List mI := [(0, .iload_n 0, 1, 0, 0), (1, .bipush 48, 2, 0, 0), (3, .if_icmp .lt 13, 3, 0, 0), (6, .iload_n 0, 1, 0, 0), (7, .bipush 57, 2, 0, 0), (9, .if_icmp .gt 7, 3, 0, 0), (12, .iconst 1, 1, 0, 0), (13, .goto 4, 3, 0, 0), (16, .iconst 0, 1, 0, 0), (17, .ireturn, 1, 0, 0)]
set_option maxRecDepth 100000 in
theorem kX12_isDigit : mTok cX12_isDigit RX12 1 false tX12_isDigit := mTok_of (by decide +kernel) ⟨trivial, trivial, trivial, trivial, trivial, trivial, trivial, trivial, trivial, trivial, trivial⟩
def tX12_isSign : List mI := [(0, .iload_n 0, 1, 0, 0), (1, .bipush 59, 2, 0, 0), (3, .if_icmp .eq 63, 3, 0, 0), (6, .iload_n 0, 1, 0, 0), (7, .bipush 40, 2, 0, 0), (9, .if_icmp .eq 57, 3, 0, 0), (12, .iload_n 0, 1, 0, 0), (13, .bipush 41, 2, 0, 0), (15, .if_icmp .eq 51, 3, 0, 0), (18, .iload_n 0, 1, 0, 0), (19, .bipush 60, 2, 0, 0), (21, .if_icmp .eq 45, 3, 0, 0), (24, .iload_n 0, 1, 0, 0), (25, .bipush 62, 2, 0, 0), (27, .if_icmp .eq 39, 3, 0, 0), (30, .iload_n 0, 1, 0, 0), (31, .bipush 61, 2, 0, 0), (33, .if_icmp .eq 33, 3, 0, 0), (36, .iload_n 0, 1, 0, 0), (37, .bipush 43, 2, 0, 0), (39, .if_icmp .eq 27, 3, 0, 0), (42, .iload_n 0, 1, 0, 0), (43, .bipush 45, 2, 0, 0), (45, .if_icmp .eq 21, 3, 0, 0), (48, .iload_n 0, 1, 0, 0), (49, .bipush 42, 2, 0, 0), (51, .if_icmp .eq 15, 3, 0, 0), (54, .iload_n 0, 1, 0, 0), (55, .bipush 47, 2, 0, 0), (57, .if_icmp .eq 9, 3, 0, 0), (60, .iload_n 0, 1, 0, 0), (61, .bipush 37, 2, 0, 0), (63, .if_icmp .ne 7, 3, 0, 0), (66, .iconst 1, 1, 0, 0), (67, .goto 4, 3, 0, 0), (70, .iconst 0, 1, 0, 0), (71, .ireturn, 1, 0, 0)]
set_option maxRecDepth 100000 in
theorem kX12_isSign : mTok cX12_isSign RX12 1 false tX12_isSign := mTok_of (by decide +kernel) ⟨trivial, trivial, trivial, trivial, trivial, trivial, trivial, trivial, trivial, trivial, trivial, trivial, trivial, trivial, trivial, trivial, trivial, trivial, trivial, trivial, trivial, trivial, trivial, trivial, trivial, trivial, trivial, trivial, trivial, trivial, trivial, trivial, trivial, trivial, trivial, trivial, trivial, trivial⟩
def tX12_token : List mI := [(0, .aload_n 0, 1, 0, 0), (1, .iconst 0, 1, 0, 0), (2, .invokevirtual 165, 3, 0, 0), (5, .bipush 32, 2, 0, 0), (7, .if_icmp .eq 13, 3, 0, 0), (10, .aload_n 0, 1, 0, 0), (11, .iconst 0, 1, 0, 0), (12, .invokevirtual 165, 3, 0, 0), (15, .bipush 10, 2, 0, 0), (17, .if_icmp .ne 16, 3, 0, 0), (20, .aload_n 0, 1, 0, 0), (21, .dup, 1, 0, 0), (22, .getfield 159, 3, 12, 4), (25, .iconst 1, 1, 0, 0), (26, .iadd, 1, 0, 0), (27, .putfield 159, 3, 12, 4), (30, .goto (-30), 3, 0, 0), (33, .aload_n 0, 1, 0, 0), (34, .aload_n 0, 1, 0, 0), (35, .getfield 159, 3, 12, 4), (38, .putfield 169, 3, 12, 7), (41, .aload_n 0, 1, 0, 0), (42, .iconst 0, 1, 0, 0), (43, .invokevirtual 165, 3, 0, 0), (46, .istore_n 1, 1, 0, 0), (47, .iconst 0, 1, 0, 0), (48, .istore_n 2, 1, 0, 0), (49, .aload_n 0, 1, 0, 0), (50, .lconst 0, 1, 0, 0), (51, .putfield 172, 3, 12, 9), (54, .aload_n 0, 1, 0, 0), (55, .iconst 0, 1, 0, 0), (56, .putfield 176, 3, 12, 8), (59, .iload_n 1, 1, 0, 0), (60, .ifCond .ge 11, 3, 0, 0), (63, .aload_n 0, 1, 0, 0), (64, .iconst 0, 1, 0, 0), (65, .putfield 179, 3, 12, 6), (68, .goto 164, 3, 0, 0), (71, .iload_n 1, 1, 0, 0), (72, .invokestatic 182, 3, 0, 0), (75, .ifCond .eq 62, 3, 0, 0), (78, .aload_n 0, 1, 0, 0), (79, .iload_n 2, 1, 0, 0), (80, .invokevirtual 165, 3, 0, 0), (83, .invokestatic 182, 3, 0, 0), (86, .ifCond .eq 33, 3, 0, 0), (89, .iload_n 2, 1, 0, 0), (90, .bipush 8, 2, 0, 0), (92, .if_icmp .ge 21, 3, 0, 0), (95, .aload_n 0, 1, 0, 0), (96, .aload_n 0, 1, 0, 0), (97, .getfield 172, 3, 12, 9), (100, .bipush 8, 2, 0, 0), (102, .lshl, 1, 0, 0), (103, .aload_n 0, 1, 0, 0), (104, .iload_n 2, 1, 0, 0), (105, .invokevirtual 165, 3, 0, 0), (108, .i2l, 1, 0, 0), (109, .lor, 1, 0, 0), (110, .putfield 172, 3, 12, 9), (113, .iinc 2 1, 3, 0, 0), (116, .goto (-38), 3, 0, 0), (119, .aload_n 0, 1, 0, 0), (120, .iload_n 2, 1, 0, 0), (121, .bipush 8, 2, 0, 0), (123, .if_icmp .le 7, 3, 0, 0), (126, .iconst 3, 1, 0, 0), (127, .goto 4, 3, 0, 0), (130, .iconst 1, 1, 0, 0), (131, .putfield 179, 3, 12, 6), (134, .goto 98, 3, 0, 0), (137, .iload_n 1, 1, 0, 0), (138, .invokestatic 186, 3, 0, 0), (141, .ifCond .eq 73, 3, 0, 0), (144, .aload_n 0, 1, 0, 0), (145, .iload_n 2, 1, 0, 0), (146, .invokevirtual 165, 3, 0, 0), (149, .invokestatic 186, 3, 0, 0), (152, .ifCond .eq 34, 3, 0, 0), (155, .iload_n 2, 1, 0, 0), (156, .iconst 4, 1, 0, 0), (157, .if_icmp .ge 23, 3, 0, 0), (160, .aload_n 0, 1, 0, 0), (161, .bipush 10, 2, 0, 0), (163, .aload_n 0, 1, 0, 0), (164, .getfield 176, 3, 12, 8), (167, .imul, 1, 0, 0), (168, .aload_n 0, 1, 0, 0), (169, .iload_n 2, 1, 0, 0), (170, .invokevirtual 165, 3, 0, 0), (173, .iadd, 1, 0, 0), (174, .bipush 48, 2, 0, 0), (176, .isub, 1, 0, 0), (177, .putfield 176, 3, 12, 8), (180, .iinc 2 1, 3, 0, 0), (183, .goto (-39), 3, 0, 0), (186, .aload_n 0, 1, 0, 0), (187, .iload_n 2, 1, 0, 0), (188, .iconst 4, 1, 0, 0), (189, .if_icmp .gt 14, 3, 0, 0), (192, .aload_n 0, 1, 0, 0), (193, .iload_n 2, 1, 0, 0), (194, .invokevirtual 165, 3, 0, 0), (197, .invokestatic 182, 3, 0, 0), (200, .ifCond .eq 7, 3, 0, 0), (203, .iconst 3, 1, 0, 0), (204, .goto 4, 3, 0, 0), (207, .iconst 2, 1, 0, 0), (208, .putfield 179, 3, 12, 6), (211, .goto 21, 3, 0, 0), (214, .iconst 1, 1, 0, 0), (215, .istore_n 2, 1, 0, 0), (216, .aload_n 0, 1, 0, 0), (217, .iload_n 1, 1, 0, 0), (218, .invokestatic 189, 3, 0, 0), (221, .ifCond .eq 7, 3, 0, 0), (224, .iload_n 1, 1, 0, 0), (225, .goto 4, 3, 0, 0), (228, .iconst 3, 1, 0, 0), (229, .putfield 179, 3, 12, 6), (232, .aload_n 0, 1, 0, 0), (233, .getfield 179, 3, 12, 6), (236, .iconst 3, 1, 0, 0), (237, .if_icmp .eq 13, 3, 0, 0), (240, .aload_n 0, 1, 0, 0), (241, .dup, 1, 0, 0), (242, .getfield 159, 3, 12, 4), (245, .iload_n 2, 1, 0, 0), (246, .iadd, 1, 0, 0), (247, .putfield 159, 3, 12, 4), (250, .return_, 1, 0, 0)]
set_option maxRecDepth 100000 in
theorem kX12_token : mTok cX12_token RX12 3 false tX12_token := mTok_of (by decide +kernel) ⟨trivial, trivial, trivial, trivial, trivial, trivial, trivial, trivial, trivial, trivial, trivial, trivial, ⟨_, rfl, lfRX12_159⟩, trivial, trivial, ⟨_, rfl, lfRX12_159, (fun z => by cases z)⟩, trivial, trivial, trivial, ⟨_, rfl, lfRX12_159⟩, ⟨_, rfl, lfRX12_169, (fun z => by cases z)⟩, trivial, trivial, trivial, trivial, trivial, trivial, trivial, trivial, ⟨_, rfl, lfRX12_172, (fun z => by cases z)⟩, trivial, trivial, ⟨_, rfl, lfRX12_176, (fun z => by cases z)⟩, trivial, trivial, trivial, trivial, ⟨_, rfl, lfRX12_179, (fun z => by cases z)⟩, trivial, trivial, (fun z => by cases z), trivial, trivial, trivial, trivial, (fun z => by cases z), trivial, trivial, trivial, trivial, trivial, trivial, ⟨_, rfl, lfRX12_172⟩, trivial, trivial, trivial, trivial, trivial, trivial, trivial, ⟨_, rfl, lfRX12_172, (fun z => by cases z)⟩, trivial, trivial, trivial, trivial, trivial, trivial, trivial, trivial, trivial, ⟨_, rfl, lfRX12_179, (fun z => by cases z)⟩, trivial, trivial, (fun z => by cases z), trivial, trivial, trivial, trivial, (fun z => by cases z), trivial, trivial, trivial, trivial, trivial, trivial, trivial, ⟨_, rfl, lfRX12_176⟩, trivial, trivial, trivial, trivial, trivial, trivial, trivial, ⟨_, rfl, lfRX12_176, (fun z => by cases z)⟩, trivial, trivial, trivial, trivial, trivial, trivial, trivial, trivial, trivial, (fun z => by cases z), trivial, trivial, trivial, trivial, ⟨_, rfl, lfRX12_179, (fun z => by cases z)⟩, trivial, trivial, trivial, trivial, trivial, (fun z => by cases z), trivial, trivial, trivial, trivial, ⟨_, rfl, lfRX12_179, (fun z => by cases z)⟩, trivial, ⟨_, rfl, lfRX12_179⟩, trivial, trivial, trivial, trivial, ⟨_, rfl, lfRX12_159⟩, trivial, trivial, ⟨_, rfl, lfRX12_159, (fun z => by cases z)⟩, trivial, trivial⟩
def tX12_wrong : List mI := [(0, .aload_n 0, 1, 0, 0), (1, .getfield 192, 3, 12, 2), (4, .ifCond .le 4, 3, 0, 0), (7, .return_, 1, 0, 0), (8, .aload_n 0, 1, 0, 0), (9, .aload_n 0, 1, 0, 0), (10, .getfield 179, 3, 12, 6), (13, .iconst 3, 1, 0, 0), (14, .if_icmp .ne 7, 3, 0, 0), (17, .iconst 1, 1, 0, 0), (18, .goto 4, 3, 0, 0), (21, .iload_n 1, 1, 0, 0), (22, .putfield 192, 3, 12, 2), (25, .aload_n 0, 1, 0, 0), (26, .aload_n 0, 1, 0, 0), (27, .getfield 169, 3, 12, 7), (30, .putfield 13, 3, 12, 3), (33, .return_, 1, 0, 0)]
set_option maxRecDepth 100000 in
theorem kX12_wrong : mTok cX12_wrong RX12 2 false tX12_wrong := mTok_of (by decide +kernel) ⟨trivial, ⟨_, rfl, lfRX12_192⟩, trivial, trivial, trivial, trivial, ⟨_, rfl, lfRX12_179⟩, trivial, trivial, trivial, trivial, trivial, ⟨_, rfl, lfRX12_192, (fun z => by cases z)⟩, trivial, trivial, ⟨_, rfl, lfRX12_169⟩, ⟨_, rfl, lfRX12_13, (fun z => by cases z)⟩, trivial, trivial⟩
def tX12_isWord : List mI := [(0, .aload_n 0, 1, 0, 0), (1, .getfield 179, 3, 12, 6), (4, .iconst 1, 1, 0, 0), (5, .if_icmp .ne 16, 3, 0, 0), (8, .aload_n 0, 1, 0, 0), (9, .getfield 172, 3, 12, 9), (12, .lload_n 1, 1, 0, 0), (13, .lcmp, 1, 0, 0), (14, .ifCond .ne 7, 3, 0, 0), (17, .iconst 1, 1, 0, 0), (18, .goto 4, 3, 0, 0), (21, .iconst 0, 1, 0, 0), (22, .ireturn, 1, 0, 0)]
set_option maxRecDepth 100000 in
theorem kX12_isWord : mTok cX12_isWord RX12 3 false tX12_isWord := mTok_of (by decide +kernel) ⟨trivial, ⟨_, rfl, lfRX12_179⟩, trivial, trivial, trivial, ⟨_, rfl, lfRX12_172⟩, trivial, trivial, trivial, trivial, trivial, trivial, trivial, trivial⟩
def tX12_isOwn : List mI := [(0, .aload_n 0, 1, 0, 0), (1, .getfield 172, 3, 12, 9), (4, .ldc2_w 195, 3, 448546567013, 0), (7, .lcmp, 1, 0, 0), (8, .ifCond .eq 157, 3, 0, 0), (11, .aload_n 0, 1, 0, 0), (12, .getfield 172, 3, 12, 9), (15, .ldc2_w 197, 3, 24948, 0), (18, .lcmp, 1, 0, 0), (19, .ifCond .eq 146, 3, 0, 0), (22, .aload_n 0, 1, 0, 0), (23, .getfield 172, 3, 12, 9), (26, .ldc2_w 199, 3, 448377480307, 0), (29, .lcmp, 1, 0, 0), (30, .ifCond .eq 135, 3, 0, 0), (33, .aload_n 0, 1, 0, 0), (34, .getfield 172, 3, 12, 9), (37, .ldc2_w 201, 3, 6971757, 0), (40, .lcmp, 1, 0, 0), (41, .ifCond .eq 124, 3, 0, 0), (44, .aload_n 0, 1, 0, 0), (45, .getfield 172, 3, 12, 9), (48, .ldc2_w 203, 3, 448310438260, 0), (51, .lcmp, 1, 0, 0), (52, .ifCond .eq 113, 3, 0, 0), (55, .aload_n 0, 1, 0, 0), (56, .getfield 172, 3, 12, 9), (59, .ldc2_w 205, 3, 1936746868, 0), (62, .lcmp, 1, 0, 0), (63, .ifCond .eq 102, 3, 0, 0), (66, .aload_n 0, 1, 0, 0), (67, .getfield 172, 3, 12, 9), (70, .ldc2_w 207, 3, 7627128, 0), (73, .lcmp, 1, 0, 0), (74, .ifCond .eq 91, 3, 0, 0), (77, .aload_n 0, 1, 0, 0), (78, .getfield 172, 3, 12, 9), (81, .ldc2_w 209, 3, 1735552887, 0), (84, .lcmp, 1, 0, 0), (85, .ifCond .eq 80, 3, 0, 0), (88, .aload_n 0, 1, 0, 0), (89, .getfield 172, 3, 12, 9), (92, .ldc2_w 211, 3, 1685217655, 0), (95, .lcmp, 1, 0, 0), (96, .ifCond .eq 69, 3, 0, 0), (99, .aload_n 0, 1, 0, 0), (100, .getfield 172, 3, 12, 9), (103, .ldc2_w 213, 3, 114801865155950, 0), (106, .lcmp, 1, 0, 0), (107, .ifCond .eq 58, 3, 0, 0), (110, .aload_n 0, 1, 0, 0), (111, .getfield 172, 3, 12, 9), (114, .ldc2_w 215, 3, 126943922906483, 0), (117, .lcmp, 1, 0, 0), (118, .ifCond .eq 47, 3, 0, 0), (121, .aload_n 0, 1, 0, 0), (122, .getfield 172, 3, 12, 9), (125, .ldc2_w 217, 3, 2036687218, 0), (128, .lcmp, 1, 0, 0), (129, .ifCond .eq 36, 3, 0, 0), (132, .aload_n 0, 1, 0, 0), (133, .getfield 172, 3, 12, 9), (136, .ldc2_w 219, 3, 6385252, 0), (139, .lcmp, 1, 0, 0), (140, .ifCond .eq 25, 3, 0, 0), (143, .aload_n 0, 1, 0, 0), (144, .getfield 172, 3, 12, 9), (147, .ldc2_w 221, 3, 28530, 0), (150, .lcmp, 1, 0, 0), (151, .ifCond .eq 14, 3, 0, 0), (154, .aload_n 0, 1, 0, 0), (155, .getfield 172, 3, 12, 9), (158, .ldc2_w 223, 3, 7237492, 0), (161, .lcmp, 1, 0, 0), (162, .ifCond .ne 7, 3, 0, 0), (165, .iconst 1, 1, 0, 0), (166, .goto 4, 3, 0, 0), (169, .iconst 0, 1, 0, 0), (170, .ireturn, 1, 0, 0)]
set_option maxRecDepth 100000 in
theorem kX12_isOwn : mTok cX12_isOwn RX12 1 false tX12_isOwn := mTok_of (by decide +kernel) ⟨trivial, ⟨_, rfl, lfRX12_172⟩, lcRX12_195, trivial, trivial, trivial, ⟨_, rfl, lfRX12_172⟩, lcRX12_197, trivial, trivial, trivial, ⟨_, rfl, lfRX12_172⟩, lcRX12_199, trivial, trivial, trivial, ⟨_, rfl, lfRX12_172⟩, lcRX12_201, trivial, trivial, trivial, ⟨_, rfl, lfRX12_172⟩, lcRX12_203, trivial, trivial, trivial, ⟨_, rfl, lfRX12_172⟩, lcRX12_205, trivial, trivial, trivial, ⟨_, rfl, lfRX12_172⟩, lcRX12_207, trivial, trivial, trivial, ⟨_, rfl, lfRX12_172⟩, lcRX12_209, trivial, trivial, trivial, ⟨_, rfl, lfRX12_172⟩, lcRX12_211, trivial, trivial, trivial, ⟨_, rfl, lfRX12_172⟩, lcRX12_213, trivial, trivial, trivial, ⟨_, rfl, lfRX12_172⟩, lcRX12_215, trivial, trivial, trivial, ⟨_, rfl, lfRX12_172⟩, lcRX12_217, trivial, trivial, trivial, ⟨_, rfl, lfRX12_172⟩, lcRX12_219, trivial, trivial, trivial, ⟨_, rfl, lfRX12_172⟩, lcRX12_221, trivial, trivial, trivial, ⟨_, rfl, lfRX12_172⟩, lcRX12_223, trivial, trivial, trivial, trivial, trivial, trivial, trivial⟩
def tX12_isName : List mI := [(0, .aload_n 0, 1, 0, 0), (1, .getfield 179, 3, 12, 6), (4, .iconst 1, 1, 0, 0), (5, .if_icmp .ne 14, 3, 0, 0), (8, .aload_n 0, 1, 0, 0), (9, .invokevirtual 225, 3, 0, 0), (12, .ifCond .ne 7, 3, 0, 0), (15, .iconst 1, 1, 0, 0), (16, .goto 4, 3, 0, 0), (19, .iconst 0, 1, 0, 0), (20, .ireturn, 1, 0, 0)]
set_option maxRecDepth 100000 in
theorem kX12_isName : mTok cX12_isName RX12 1 false tX12_isName := mTok_of (by decide +kernel) ⟨trivial, ⟨_, rfl, lfRX12_179⟩, trivial, trivial, trivial, trivial, trivial, trivial, trivial, trivial, trivial, trivial⟩
def tX12_want : List mI := [(0, .aload_n 0, 1, 0, 0), (1, .getfield 192, 3, 12, 2), (4, .ifCond .le 4, 3, 0, 0), (7, .return_, 1, 0, 0), (8, .aload_n 0, 1, 0, 0), (9, .lload_n 1, 1, 0, 0), (10, .invokevirtual 229, 3, 0, 0), (13, .ifCond .ne 11, 3, 0, 0), (16, .aload_n 0, 1, 0, 0), (17, .iconst 2, 1, 0, 0), (18, .invokevirtual 233, 3, 0, 0), (21, .goto 7, 3, 0, 0), (24, .aload_n 0, 1, 0, 0), (25, .invokevirtual 236, 3, 0, 0), (28, .return_, 1, 0, 0)]
set_option maxRecDepth 100000 in
theorem kX12_want : mTok cX12_want RX12 3 false tX12_want := mTok_of (by decide +kernel) ⟨trivial, ⟨_, rfl, lfRX12_192⟩, trivial, trivial, trivial, trivial, trivial, trivial, trivial, trivial, trivial, trivial, trivial, trivial, trivial, trivial⟩
def tX12_toldNumber : List mI := [(0, .aload_n 0, 1, 0, 0), (1, .getfield 192, 3, 12, 2), (4, .ifCond .le 5, 3, 0, 0), (7, .iconst 0, 1, 0, 0), (8, .ireturn, 1, 0, 0), (9, .aload_n 0, 1, 0, 0), (10, .getfield 179, 3, 12, 6), (13, .iconst 2, 1, 0, 0), (14, .if_icmp .eq 11, 3, 0, 0), (17, .aload_n 0, 1, 0, 0), (18, .iconst 2, 1, 0, 0), (19, .invokevirtual 233, 3, 0, 0), (22, .goto 24, 3, 0, 0), (25, .aload_n 0, 1, 0, 0), (26, .getfield 176, 3, 12, 8), (29, .iload_n 1, 1, 0, 0), (30, .if_icmp .lt 11, 3, 0, 0), (33, .aload_n 0, 1, 0, 0), (34, .getfield 176, 3, 12, 8), (37, .iload_n 2, 1, 0, 0), (38, .if_icmp .le 8, 3, 0, 0), (41, .aload_n 0, 1, 0, 0), (42, .iconst 4, 1, 0, 0), (43, .invokevirtual 233, 3, 0, 0), (46, .aload_n 0, 1, 0, 0), (47, .getfield 176, 3, 12, 8), (50, .istore_n 3, 1, 0, 0), (51, .aload_n 0, 1, 0, 0), (52, .getfield 192, 3, 12, 2), (55, .ifCond .ne 7, 3, 0, 0), (58, .aload_n 0, 1, 0, 0), (59, .invokevirtual 236, 3, 0, 0), (62, .iload_n 3, 1, 0, 0), (63, .ireturn, 1, 0, 0)]
set_option maxRecDepth 100000 in
theorem kX12_toldNumber : mTok cX12_toldNumber RX12 4 false tX12_toldNumber := mTok_of (by decide +kernel) ⟨trivial, ⟨_, rfl, lfRX12_192⟩, trivial, trivial, trivial, trivial, ⟨_, rfl, lfRX12_179⟩, trivial, trivial, trivial, trivial, trivial, trivial, trivial, ⟨_, rfl, lfRX12_176⟩, trivial, trivial, trivial, ⟨_, rfl, lfRX12_176⟩, trivial, trivial, trivial, trivial, trivial, trivial, ⟨_, rfl, lfRX12_176⟩, trivial, trivial, ⟨_, rfl, lfRX12_192⟩, trivial, trivial, trivial, trivial, trivial, trivial⟩
def tX12_told : List mI := [(0, .aload_n 0, 1, 0, 0), (1, .lload_n 1, 1, 0, 0), (2, .invokevirtual 239, 3, 0, 0), (5, .aload_n 0, 1, 0, 0), (6, .iload_n 3, 1, 0, 0), (7, .iload 4, 2, 0, 0), (9, .invokevirtual 243, 3, 0, 0), (12, .ireturn, 1, 0, 0)]
set_option maxRecDepth 100000 in
theorem kX12_told : mTok cX12_told RX12 5 false tX12_told := mTok_of (by decide +kernel) ⟨trivial, trivial, trivial, trivial, trivial, trivial, trivial, trivial, trivial⟩
def tX12_option : List mI := [(0, .aload_n 0, 1, 0, 0), (1, .getfield 192, 3, 12, 2), (4, .ifCond .ne 22, 3, 0, 0), (7, .aload_n 0, 1, 0, 0), (8, .lload_n 1, 1, 0, 0), (9, .invokevirtual 229, 3, 0, 0), (12, .ifCond .eq 14, 3, 0, 0), (15, .aload_n 0, 1, 0, 0), (16, .lload_n 1, 1, 0, 0), (17, .iconst 0, 1, 0, 0), (18, .bipush 9, 2, 0, 0), (20, .invokevirtual 247, 3, 0, 0), (23, .goto 4, 3, 0, 0), (26, .iconst 0, 1, 0, 0), (27, .ireturn, 1, 0, 0)]
set_option maxRecDepth 100000 in
theorem kX12_option : mTok cX12_option RX12 3 false tX12_option := mTok_of (by decide +kernel) ⟨trivial, ⟨_, rfl, lfRX12_192⟩, trivial, trivial, trivial, trivial, trivial, trivial, trivial, trivial, trivial, trivial, trivial, trivial, trivial, trivial⟩
def tX12_find : List mI := [(0, .iconst (-1), 1, 0, 0), (1, .istore_n 1, 1, 0, 0), (2, .iconst 0, 1, 0, 0), (3, .istore_n 2, 1, 0, 0), (4, .iload_n 2, 1, 0, 0), (5, .aload_n 0, 1, 0, 0), (6, .getfield 251, 3, 12, 35), (9, .if_icmp .ge 29, 3, 0, 0), (12, .aload_n 0, 1, 0, 0), (13, .getfield 17, 3, 12, 10), (16, .iload_n 2, 1, 0, 0), (17, .laload, 1, 0, 0), (18, .aload_n 0, 1, 0, 0), (19, .getfield 172, 3, 12, 9), (22, .lcmp, 1, 0, 0), (23, .ifCond .ne 7, 3, 0, 0), (26, .iload_n 2, 1, 0, 0), (27, .goto 4, 3, 0, 0), (30, .iload_n 1, 1, 0, 0), (31, .istore_n 1, 1, 0, 0), (32, .iinc 2 1, 3, 0, 0), (35, .goto (-31), 3, 0, 0), (38, .iload_n 1, 1, 0, 0), (39, .ireturn, 1, 0, 0)]
set_option maxRecDepth 100000 in
theorem kX12_find : mTok cX12_find RX12 3 false tX12_find := mTok_of (by decide +kernel) ⟨trivial, trivial, trivial, trivial, trivial, trivial, ⟨_, rfl, lfRX12_251⟩, trivial, trivial, ⟨_, rfl, lfRX12_17⟩, trivial, trivial, trivial, ⟨_, rfl, lfRX12_172⟩, trivial, trivial, trivial, trivial, trivial, trivial, trivial, trivial, trivial, trivial, trivial⟩
def tX12_add : List mI := [(0, .aload_n 0, 1, 0, 0), (1, .getfield 21, 3, 12, 11), (4, .sipush 320, 3, 0, 0), (7, .aload_n 0, 1, 0, 0), (8, .getfield 254, 3, 12, 21), (11, .imul, 1, 0, 0), (12, .aload_n 0, 1, 0, 0), (13, .getfield 27, 3, 12, 13), (16, .aload_n 0, 1, 0, 0), (17, .getfield 254, 3, 12, 21), (20, .iaload, 1, 0, 0), (21, .iadd, 1, 0, 0), (22, .iload_n 1, 1, 0, 0), (23, .iastore, 1, 0, 0), (24, .aload_n 0, 1, 0, 0), (25, .getfield 24, 3, 12, 12), (28, .sipush 320, 3, 0, 0), (31, .aload_n 0, 1, 0, 0), (32, .getfield 254, 3, 12, 21), (35, .imul, 1, 0, 0), (36, .aload_n 0, 1, 0, 0), (37, .getfield 27, 3, 12, 13), (40, .aload_n 0, 1, 0, 0), (41, .getfield 254, 3, 12, 21), (44, .iaload, 1, 0, 0), (45, .iadd, 1, 0, 0), (46, .iload_n 2, 1, 0, 0), (47, .iastore, 1, 0, 0), (48, .aload_n 0, 1, 0, 0), (49, .getfield 27, 3, 12, 13), (52, .aload_n 0, 1, 0, 0), (53, .getfield 254, 3, 12, 21), (56, .dup2, 1, 0, 0), (57, .iaload, 1, 0, 0), (58, .iconst 1, 1, 0, 0), (59, .iadd, 1, 0, 0), (60, .iastore, 1, 0, 0), (61, .return_, 1, 0, 0)]
set_option maxRecDepth 100000 in
theorem kX12_add : mTok cX12_add RX12 3 false tX12_add := mTok_of (by decide +kernel) ⟨trivial, ⟨_, rfl, lfRX12_21⟩, trivial, trivial, ⟨_, rfl, lfRX12_254⟩, trivial, trivial, ⟨_, rfl, lfRX12_27⟩, trivial, ⟨_, rfl, lfRX12_254⟩, trivial, trivial, trivial, trivial, trivial, ⟨_, rfl, lfRX12_24⟩, trivial, trivial, ⟨_, rfl, lfRX12_254⟩, trivial, trivial, ⟨_, rfl, lfRX12_27⟩, trivial, ⟨_, rfl, lfRX12_254⟩, trivial, trivial, trivial, trivial, trivial, ⟨_, rfl, lfRX12_27⟩, trivial, ⟨_, rfl, lfRX12_254⟩, trivial, trivial, trivial, trivial, trivial, trivial, trivial⟩
def tX12_tight : List mI := [(0, .iload_n 0, 1, 0, 0), (1, .lookupswitch 85 #[(21, 79), (38, 77), (43, 83), (45, 83), (60, 81), (61, 81), (62, 81), (124, 75)], 75, 0, 0), (76, .iconst 1, 1, 0, 0), (77, .ireturn, 1, 0, 0), (78, .iconst 2, 1, 0, 0), (79, .ireturn, 1, 0, 0), (80, .iconst 3, 1, 0, 0), (81, .ireturn, 1, 0, 0), (82, .iconst 4, 1, 0, 0), (83, .ireturn, 1, 0, 0), (84, .iconst 5, 1, 0, 0), (85, .ireturn, 1, 0, 0), (86, .bipush 6, 2, 0, 0), (88, .ireturn, 1, 0, 0)]
set_option maxRecDepth 100000 in
theorem kX12_tight : mTok cX12_tight RX12 1 false tX12_tight := mTok_of (by decide +kernel) ⟨trivial, trivial, trivial, trivial, trivial, trivial, trivial, trivial, trivial, trivial, trivial, trivial, trivial, trivial, trivial⟩
def tX12_close : List mI := [(0, .aload_n 0, 1, 0, 0), (1, .getfield 257, 3, 12, 22), (4, .ifCond .le 97, 3, 0, 0), (7, .aload_n 0, 1, 0, 0), (8, .getfield 39, 3, 12, 17), (11, .aload_n 0, 1, 0, 0), (12, .getfield 257, 3, 12, 22), (15, .iconst 1, 1, 0, 0), (16, .isub, 1, 0, 0), (17, .iaload, 1, 0, 0), (18, .bipush 20, 2, 0, 0), (20, .if_icmp .eq 81, 3, 0, 0), (23, .aload_n 0, 1, 0, 0), (24, .getfield 39, 3, 12, 17), (27, .aload_n 0, 1, 0, 0), (28, .getfield 257, 3, 12, 22), (31, .iconst 1, 1, 0, 0), (32, .isub, 1, 0, 0), (33, .iaload, 1, 0, 0), (34, .invokestatic 260, 3, 0, 0), (37, .iload_n 1, 1, 0, 0), (38, .if_icmp .lt 63, 3, 0, 0), (41, .aload_n 0, 1, 0, 0), (42, .dup, 1, 0, 0), (43, .getfield 257, 3, 12, 22), (46, .iconst 1, 1, 0, 0), (47, .isub, 1, 0, 0), (48, .putfield 257, 3, 12, 22), (51, .aload_n 0, 1, 0, 0), (52, .getfield 39, 3, 12, 17), (55, .aload_n 0, 1, 0, 0), (56, .getfield 257, 3, 12, 22), (59, .iaload, 1, 0, 0), (60, .bipush 21, 2, 0, 0), (62, .if_icmp .ne 22, 3, 0, 0), (65, .aload_n 0, 1, 0, 0), (66, .iconst 2, 1, 0, 0), (67, .iconst 0, 1, 0, 0), (68, .invokevirtual 263, 3, 0, 0), (71, .aload_n 0, 1, 0, 0), (72, .dup, 1, 0, 0), (73, .getfield 267, 3, 12, 26), (76, .iconst 1, 1, 0, 0), (77, .isub, 1, 0, 0), (78, .putfield 267, 3, 12, 26), (81, .goto (-81), 3, 0, 0), (84, .aload_n 0, 1, 0, 0), (85, .iconst 3, 1, 0, 0), (86, .aload_n 0, 1, 0, 0), (87, .getfield 39, 3, 12, 17), (90, .aload_n 0, 1, 0, 0), (91, .getfield 257, 3, 12, 22), (94, .iaload, 1, 0, 0), (95, .invokevirtual 263, 3, 0, 0), (98, .goto (-98), 3, 0, 0), (101, .return_, 1, 0, 0)]
set_option maxRecDepth 100000 in
theorem kX12_close : mTok cX12_close RX12 2 false tX12_close := mTok_of (by decide +kernel) ⟨trivial, ⟨_, rfl, lfRX12_257⟩, trivial, trivial, ⟨_, rfl, lfRX12_39⟩, trivial, ⟨_, rfl, lfRX12_257⟩, trivial, trivial, trivial, trivial, trivial, trivial, ⟨_, rfl, lfRX12_39⟩, trivial, ⟨_, rfl, lfRX12_257⟩, trivial, trivial, trivial, (fun z => by cases z), trivial, trivial, trivial, trivial, ⟨_, rfl, lfRX12_257⟩, trivial, trivial, ⟨_, rfl, lfRX12_257, (fun z => by cases z)⟩, trivial, ⟨_, rfl, lfRX12_39⟩, trivial, ⟨_, rfl, lfRX12_257⟩, trivial, trivial, trivial, trivial, trivial, trivial, trivial, trivial, trivial, ⟨_, rfl, lfRX12_267⟩, trivial, trivial, ⟨_, rfl, lfRX12_267, (fun z => by cases z)⟩, trivial, trivial, trivial, trivial, ⟨_, rfl, lfRX12_39⟩, trivial, ⟨_, rfl, lfRX12_257⟩, trivial, trivial, trivial, trivial, trivial⟩
def tX12_hasRelation : List mI := [(0, .aload_n 0, 1, 0, 0), (1, .getfield 257, 3, 12, 22), (4, .iconst 1, 1, 0, 0), (5, .isub, 1, 0, 0), (6, .istore_n 1, 1, 0, 0), (7, .iload_n 1, 1, 0, 0), (8, .ifCond .lt 33, 3, 0, 0), (11, .aload_n 0, 1, 0, 0), (12, .getfield 39, 3, 12, 17), (15, .iload_n 1, 1, 0, 0), (16, .iaload, 1, 0, 0), (17, .bipush 20, 2, 0, 0), (19, .if_icmp .eq 22, 3, 0, 0), (22, .aload_n 0, 1, 0, 0), (23, .getfield 39, 3, 12, 17), (26, .iload_n 1, 1, 0, 0), (27, .iaload, 1, 0, 0), (28, .invokestatic 260, 3, 0, 0), (31, .iconst 4, 1, 0, 0), (32, .if_icmp .le 9, 3, 0, 0), (35, .iinc 1 (-1), 3, 0, 0), (38, .goto (-31), 3, 0, 0), (41, .iload_n 1, 1, 0, 0), (42, .ifCond .lt 31, 3, 0, 0), (45, .aload_n 0, 1, 0, 0), (46, .getfield 39, 3, 12, 17), (49, .iload_n 1, 1, 0, 0), (50, .iaload, 1, 0, 0), (51, .bipush 20, 2, 0, 0), (53, .if_icmp .eq 20, 3, 0, 0), (56, .aload_n 0, 1, 0, 0), (57, .getfield 39, 3, 12, 17), (60, .iload_n 1, 1, 0, 0), (61, .iaload, 1, 0, 0), (62, .invokestatic 260, 3, 0, 0), (65, .iconst 4, 1, 0, 0), (66, .if_icmp .ne 7, 3, 0, 0), (69, .iconst 1, 1, 0, 0), (70, .goto 4, 3, 0, 0), (73, .iconst 0, 1, 0, 0), (74, .ireturn, 1, 0, 0)]
set_option maxRecDepth 100000 in
theorem kX12_hasRelation : mTok cX12_hasRelation RX12 2 false tX12_hasRelation := mTok_of (by decide +kernel) ⟨trivial, ⟨_, rfl, lfRX12_257⟩, trivial, trivial, trivial, trivial, trivial, trivial, ⟨_, rfl, lfRX12_39⟩, trivial, trivial, trivial, trivial, trivial, ⟨_, rfl, lfRX12_39⟩, trivial, trivial, (fun z => by cases z), trivial, trivial, trivial, trivial, trivial, trivial, trivial, ⟨_, rfl, lfRX12_39⟩, trivial, trivial, trivial, trivial, trivial, ⟨_, rfl, lfRX12_39⟩, trivial, trivial, (fun z => by cases z), trivial, trivial, trivial, trivial, trivial, trivial, trivial⟩
def tX12_mayNot : List mI := [(0, .aload_n 0, 1, 0, 0), (1, .getfield 257, 3, 12, 22), (4, .ifCond .eq 37, 3, 0, 0), (7, .aload_n 0, 1, 0, 0), (8, .getfield 39, 3, 12, 17), (11, .aload_n 0, 1, 0, 0), (12, .getfield 257, 3, 12, 22), (15, .iconst 1, 1, 0, 0), (16, .isub, 1, 0, 0), (17, .iaload, 1, 0, 0), (18, .bipush 20, 2, 0, 0), (20, .if_icmp .eq 21, 3, 0, 0), (23, .aload_n 0, 1, 0, 0), (24, .getfield 39, 3, 12, 17), (27, .aload_n 0, 1, 0, 0), (28, .getfield 257, 3, 12, 22), (31, .iconst 1, 1, 0, 0), (32, .isub, 1, 0, 0), (33, .iaload, 1, 0, 0), (34, .invokestatic 260, 3, 0, 0), (37, .iconst 4, 1, 0, 0), (38, .if_icmp .ge 7, 3, 0, 0), (41, .iconst 1, 1, 0, 0), (42, .goto 4, 3, 0, 0), (45, .iconst 0, 1, 0, 0), (46, .ireturn, 1, 0, 0)]
set_option maxRecDepth 100000 in
theorem kX12_mayNot : mTok cX12_mayNot RX12 1 false tX12_mayNot := mTok_of (by decide +kernel) ⟨trivial, ⟨_, rfl, lfRX12_257⟩, trivial, trivial, ⟨_, rfl, lfRX12_39⟩, trivial, ⟨_, rfl, lfRX12_257⟩, trivial, trivial, trivial, trivial, trivial, trivial, ⟨_, rfl, lfRX12_39⟩, trivial, ⟨_, rfl, lfRX12_257⟩, trivial, trivial, trivial, (fun z => by cases z), trivial, trivial, trivial, trivial, trivial, trivial, trivial⟩
def tX12_asked : List mI := [(0, .aload_n 0, 1, 0, 0), (1, .getfield 179, 3, 12, 6), (4, .iconst 1, 1, 0, 0), (5, .if_icmp .eq 5, 3, 0, 0), (8, .iconst (-1), 1, 0, 0), (9, .ireturn, 1, 0, 0), (10, .aload_n 0, 1, 0, 0), (11, .getfield 172, 3, 12, 9), (14, .ldc2_w 199, 3, 448377480307, 0), (17, .lcmp, 1, 0, 0), (18, .ifCond .ne 5, 3, 0, 0), (21, .iconst 0, 1, 0, 0), (22, .ireturn, 1, 0, 0), (23, .aload_n 0, 1, 0, 0), (24, .getfield 172, 3, 12, 9), (27, .ldc2_w 213, 3, 114801865155950, 0), (30, .lcmp, 1, 0, 0), (31, .ifCond .ne 5, 3, 0, 0), (34, .iconst 1, 1, 0, 0), (35, .ireturn, 1, 0, 0), (36, .aload_n 0, 1, 0, 0), (37, .getfield 172, 3, 12, 9), (40, .ldc2_w 201, 3, 6971757, 0), (43, .lcmp, 1, 0, 0), (44, .ifCond .ne 5, 3, 0, 0), (47, .iconst 2, 1, 0, 0), (48, .ireturn, 1, 0, 0), (49, .aload_n 0, 1, 0, 0), (50, .getfield 172, 3, 12, 9), (53, .ldc2_w 203, 3, 448310438260, 0), (56, .lcmp, 1, 0, 0), (57, .ifCond .ne 5, 3, 0, 0), (60, .iconst 3, 1, 0, 0), (61, .ireturn, 1, 0, 0), (62, .aload_n 0, 1, 0, 0), (63, .getfield 172, 3, 12, 9), (66, .ldc2_w 215, 3, 126943922906483, 0), (69, .lcmp, 1, 0, 0), (70, .ifCond .ne 5, 3, 0, 0), (73, .iconst 4, 1, 0, 0), (74, .ireturn, 1, 0, 0), (75, .aload_n 0, 1, 0, 0), (76, .getfield 172, 3, 12, 9), (79, .ldc2_w 217, 3, 2036687218, 0), (82, .lcmp, 1, 0, 0), (83, .ifCond .ne 7, 3, 0, 0), (86, .iconst 5, 1, 0, 0), (87, .goto 4, 3, 0, 0), (90, .iconst (-1), 1, 0, 0), (91, .ireturn, 1, 0, 0)]
set_option maxRecDepth 100000 in
theorem kX12_asked : mTok cX12_asked RX12 1 false tX12_asked := mTok_of (by decide +kernel) ⟨trivial, ⟨_, rfl, lfRX12_179⟩, trivial, trivial, trivial, trivial, trivial, ⟨_, rfl, lfRX12_172⟩, lcRX12_199, trivial, trivial, trivial, trivial, trivial, ⟨_, rfl, lfRX12_172⟩, lcRX12_213, trivial, trivial, trivial, trivial, trivial, ⟨_, rfl, lfRX12_172⟩, lcRX12_201, trivial, trivial, trivial, trivial, trivial, ⟨_, rfl, lfRX12_172⟩, lcRX12_203, trivial, trivial, trivial, trivial, trivial, ⟨_, rfl, lfRX12_172⟩, lcRX12_215, trivial, trivial, trivial, trivial, trivial, ⟨_, rfl, lfRX12_172⟩, lcRX12_217, trivial, trivial, trivial, trivial, trivial, trivial, trivial⟩
def tX12_isFull : List mI := [(0, .aload_n 0, 1, 0, 0), (1, .getfield 270, 3, 12, 23), (4, .bipush 90, 2, 0, 0), (6, .if_icmp .eq 12, 3, 0, 0), (9, .aload_n 0, 1, 0, 0), (10, .getfield 273, 3, 12, 25), (13, .bipush 30, 2, 0, 0), (15, .if_icmp .ne 7, 3, 0, 0), (18, .iconst 1, 1, 0, 0), (19, .goto 4, 3, 0, 0), (22, .iconst 0, 1, 0, 0), (23, .ireturn, 1, 0, 0)]
set_option maxRecDepth 100000 in
theorem kX12_isFull : mTok cX12_isFull RX12 1 false tX12_isFull := mTok_of (by decide +kernel) ⟨trivial, ⟨_, rfl, lfRX12_270⟩, trivial, trivial, trivial, ⟨_, rfl, lfRX12_273⟩, trivial, trivial, trivial, trivial, trivial, trivial, trivial⟩
def tX12_countUnit : List mI := [(0, .aload_n 0, 1, 0, 0), (1, .dup, 1, 0, 0), (2, .getfield 270, 3, 12, 23), (5, .iconst 1, 1, 0, 0), (6, .iadd, 1, 0, 0), (7, .putfield 270, 3, 12, 23), (10, .aload_n 0, 1, 0, 0), (11, .dup, 1, 0, 0), (12, .getfield 273, 3, 12, 25), (15, .iconst 1, 1, 0, 0), (16, .iadd, 1, 0, 0), (17, .putfield 273, 3, 12, 25), (20, .return_, 1, 0, 0)]
set_option maxRecDepth 100000 in
theorem kX12_countUnit : mTok cX12_countUnit RX12 1 false tX12_countUnit := mTok_of (by decide +kernel) ⟨trivial, trivial, ⟨_, rfl, lfRX12_270⟩, trivial, trivial, ⟨_, rfl, lfRX12_270, (fun z => by cases z)⟩, trivial, trivial, ⟨_, rfl, lfRX12_273⟩, trivial, trivial, ⟨_, rfl, lfRX12_273, (fun z => by cases z)⟩, trivial, trivial⟩
def tX12_openUp : List mI := [(0, .aload_n 0, 1, 0, 0), (1, .getfield 39, 3, 12, 17), (4, .aload_n 0, 1, 0, 0), (5, .getfield 257, 3, 12, 22), (8, .iload_n 1, 1, 0, 0), (9, .iastore, 1, 0, 0), (10, .aload_n 0, 1, 0, 0), (11, .dup, 1, 0, 0), (12, .getfield 257, 3, 12, 22), (15, .iconst 1, 1, 0, 0), (16, .iadd, 1, 0, 0), (17, .putfield 257, 3, 12, 22), (20, .aload_n 0, 1, 0, 0), (21, .dup, 1, 0, 0), (22, .getfield 267, 3, 12, 26), (25, .iconst 1, 1, 0, 0), (26, .iadd, 1, 0, 0), (27, .putfield 267, 3, 12, 26), (30, .aload_n 0, 1, 0, 0), (31, .getfield 192, 3, 12, 2), (34, .ifCond .ne 7, 3, 0, 0), (37, .aload_n 0, 1, 0, 0), (38, .invokevirtual 236, 3, 0, 0), (41, .return_, 1, 0, 0)]
set_option maxRecDepth 100000 in
theorem kX12_openUp : mTok cX12_openUp RX12 2 false tX12_openUp := mTok_of (by decide +kernel) ⟨trivial, ⟨_, rfl, lfRX12_39⟩, trivial, ⟨_, rfl, lfRX12_257⟩, trivial, trivial, trivial, trivial, ⟨_, rfl, lfRX12_257⟩, trivial, trivial, ⟨_, rfl, lfRX12_257, (fun z => by cases z)⟩, trivial, trivial, ⟨_, rfl, lfRX12_267⟩, trivial, trivial, ⟨_, rfl, lfRX12_267, (fun z => by cases z)⟩, trivial, ⟨_, rfl, lfRX12_192⟩, trivial, trivial, trivial, trivial, trivial⟩
def tX12_unit : List mI := [(0, .iconst 1, 1, 0, 0), (1, .istore_n 1, 1, 0, 0), (2, .iload_n 1, 1, 0, 0), (3, .ifCond .eq 98, 3, 0, 0), (6, .aload_n 0, 1, 0, 0), (7, .getfield 192, 3, 12, 2), (10, .ifCond .ne 91, 3, 0, 0), (13, .aload_n 0, 1, 0, 0), (14, .ldc2_w 223, 3, 7237492, 0), (17, .invokevirtual 229, 3, 0, 0), (20, .ifCond .eq 33, 3, 0, 0), (23, .aload_n 0, 1, 0, 0), (24, .invokevirtual 276, 3, 0, 0), (27, .ifCond .eq 26, 3, 0, 0), (30, .aload_n 0, 1, 0, 0), (31, .getfield 267, 3, 12, 26), (34, .bipush 6, 2, 0, 0), (36, .if_icmp .le 8, 3, 0, 0), (39, .aload_n 0, 1, 0, 0), (40, .iconst 2, 1, 0, 0), (41, .invokevirtual 233, 3, 0, 0), (44, .aload_n 0, 1, 0, 0), (45, .bipush 21, 2, 0, 0), (47, .invokevirtual 279, 3, 0, 0), (50, .goto (-48), 3, 0, 0), (53, .aload_n 0, 1, 0, 0), (54, .getfield 179, 3, 12, 6), (57, .bipush 40, 2, 0, 0), (59, .if_icmp .ne 37, 3, 0, 0), (62, .aload_n 0, 1, 0, 0), (63, .invokevirtual 282, 3, 0, 0), (66, .ifCond .ne 12, 3, 0, 0), (69, .aload_n 0, 1, 0, 0), (70, .getfield 267, 3, 12, 26), (73, .bipush 6, 2, 0, 0), (75, .if_icmp .le 8, 3, 0, 0), (78, .aload_n 0, 1, 0, 0), (79, .iconst 2, 1, 0, 0), (80, .invokevirtual 233, 3, 0, 0), (83, .aload_n 0, 1, 0, 0), (84, .invokevirtual 285, 3, 0, 0), (87, .aload_n 0, 1, 0, 0), (88, .bipush 20, 2, 0, 0), (90, .invokevirtual 279, 3, 0, 0), (93, .goto (-91), 3, 0, 0), (96, .iconst 0, 1, 0, 0), (97, .istore_n 1, 1, 0, 0), (98, .goto (-96), 3, 0, 0), (101, .aload_n 0, 1, 0, 0), (102, .getfield 192, 3, 12, 2), (105, .ifCond .le 4, 3, 0, 0), (108, .return_, 1, 0, 0), (109, .aload_n 0, 1, 0, 0), (110, .invokevirtual 288, 3, 0, 0), (113, .istore_n 2, 1, 0, 0), (114, .aload_n 0, 1, 0, 0), (115, .getfield 179, 3, 12, 6), (118, .iconst 2, 1, 0, 0), (119, .if_icmp .eq 7, 3, 0, 0), (122, .iload_n 2, 1, 0, 0), (123, .ifCond .lt 10, 3, 0, 0), (126, .aload_n 0, 1, 0, 0), (127, .invokevirtual 282, 3, 0, 0), (130, .ifCond .eq 8, 3, 0, 0), (133, .aload_n 0, 1, 0, 0), (134, .iconst 2, 1, 0, 0), (135, .invokevirtual 233, 3, 0, 0), (138, .aload_n 0, 1, 0, 0), (139, .getfield 192, 3, 12, 2), (142, .ifCond .le 4, 3, 0, 0), (145, .return_, 1, 0, 0), (146, .aload_n 0, 1, 0, 0), (147, .invokevirtual 285, 3, 0, 0), (150, .aload_n 0, 1, 0, 0), (151, .iload_n 2, 1, 0, 0), (152, .ifCond .ge 7, 3, 0, 0), (155, .iconst 0, 1, 0, 0), (156, .goto 4, 3, 0, 0), (159, .iconst 1, 1, 0, 0), (160, .iload_n 2, 1, 0, 0), (161, .ifCond .ge 10, 3, 0, 0), (164, .aload_n 0, 1, 0, 0), (165, .getfield 176, 3, 12, 8), (168, .goto 4, 3, 0, 0), (171, .iload_n 2, 1, 0, 0), (172, .invokevirtual 263, 3, 0, 0), (175, .aload_n 0, 1, 0, 0), (176, .invokevirtual 236, 3, 0, 0), (179, .return_, 1, 0, 0)]
set_option maxRecDepth 100000 in
theorem kX12_unit : mTok cX12_unit RX12 3 false tX12_unit := mTok_of (by decide +kernel) ⟨trivial, trivial, trivial, trivial, trivial, ⟨_, rfl, lfRX12_192⟩, trivial, trivial, lcRX12_223, trivial, trivial, trivial, trivial, trivial, trivial, ⟨_, rfl, lfRX12_267⟩, trivial, trivial, trivial, trivial, trivial, trivial, trivial, trivial, trivial, trivial, ⟨_, rfl, lfRX12_179⟩, trivial, trivial, trivial, trivial, trivial, trivial, ⟨_, rfl, lfRX12_267⟩, trivial, trivial, trivial, trivial, trivial, trivial, trivial, trivial, trivial, trivial, trivial, trivial, trivial, trivial, trivial, ⟨_, rfl, lfRX12_192⟩, trivial, trivial, trivial, trivial, trivial, trivial, ⟨_, rfl, lfRX12_179⟩, trivial, trivial, trivial, trivial, trivial, trivial, trivial, trivial, trivial, trivial, trivial, ⟨_, rfl, lfRX12_192⟩, trivial, trivial, trivial, trivial, trivial, trivial, trivial, trivial, trivial, trivial, trivial, trivial, trivial, ⟨_, rfl, lfRX12_176⟩, trivial, trivial, trivial, trivial, trivial, trivial, trivial⟩
def tX12_sign : List mI := [(0, .aload_n 0, 1, 0, 0), (1, .ldc2_w 219, 3, 6385252, 0), (4, .invokevirtual 229, 3, 0, 0), (7, .ifCond .eq 6, 3, 0, 0), (10, .bipush 38, 2, 0, 0), (12, .ireturn, 1, 0, 0), (13, .aload_n 0, 1, 0, 0), (14, .ldc2_w 221, 3, 28530, 0), (17, .invokevirtual 229, 3, 0, 0), (20, .ifCond .eq 6, 3, 0, 0), (23, .bipush 124, 2, 0, 0), (25, .ireturn, 1, 0, 0), (26, .aload_n 0, 1, 0, 0), (27, .getfield 179, 3, 12, 6), (30, .bipush 60, 2, 0, 0), (32, .if_icmp .eq 66, 3, 0, 0), (35, .aload_n 0, 1, 0, 0), (36, .getfield 179, 3, 12, 6), (39, .bipush 62, 2, 0, 0), (41, .if_icmp .eq 57, 3, 0, 0), (44, .aload_n 0, 1, 0, 0), (45, .getfield 179, 3, 12, 6), (48, .bipush 61, 2, 0, 0), (50, .if_icmp .eq 48, 3, 0, 0), (53, .aload_n 0, 1, 0, 0), (54, .getfield 179, 3, 12, 6), (57, .bipush 43, 2, 0, 0), (59, .if_icmp .eq 39, 3, 0, 0), (62, .aload_n 0, 1, 0, 0), (63, .getfield 179, 3, 12, 6), (66, .bipush 45, 2, 0, 0), (68, .if_icmp .eq 30, 3, 0, 0), (71, .aload_n 0, 1, 0, 0), (72, .getfield 179, 3, 12, 6), (75, .bipush 42, 2, 0, 0), (77, .if_icmp .eq 21, 3, 0, 0), (80, .aload_n 0, 1, 0, 0), (81, .getfield 179, 3, 12, 6), (84, .bipush 47, 2, 0, 0), (86, .if_icmp .eq 12, 3, 0, 0), (89, .aload_n 0, 1, 0, 0), (90, .getfield 179, 3, 12, 6), (93, .bipush 37, 2, 0, 0), (95, .if_icmp .ne 10, 3, 0, 0), (98, .aload_n 0, 1, 0, 0), (99, .getfield 179, 3, 12, 6), (102, .goto 4, 3, 0, 0), (105, .iconst 0, 1, 0, 0), (106, .ireturn, 1, 0, 0)]
set_option maxRecDepth 100000 in
theorem kX12_sign : mTok cX12_sign RX12 1 false tX12_sign := mTok_of (by decide +kernel) ⟨trivial, lcRX12_219, trivial, trivial, trivial, trivial, trivial, lcRX12_221, trivial, trivial, trivial, trivial, trivial, ⟨_, rfl, lfRX12_179⟩, trivial, trivial, trivial, ⟨_, rfl, lfRX12_179⟩, trivial, trivial, trivial, ⟨_, rfl, lfRX12_179⟩, trivial, trivial, trivial, ⟨_, rfl, lfRX12_179⟩, trivial, trivial, trivial, ⟨_, rfl, lfRX12_179⟩, trivial, trivial, trivial, ⟨_, rfl, lfRX12_179⟩, trivial, trivial, trivial, ⟨_, rfl, lfRX12_179⟩, trivial, trivial, trivial, ⟨_, rfl, lfRX12_179⟩, trivial, trivial, trivial, ⟨_, rfl, lfRX12_179⟩, trivial, trivial, trivial, trivial⟩
def tX12_hasBracket : List mI := [(0, .iconst 0, 1, 0, 0), (1, .istore_n 1, 1, 0, 0), (2, .iconst 0, 1, 0, 0), (3, .istore_n 2, 1, 0, 0), (4, .iload_n 2, 1, 0, 0), (5, .aload_n 0, 1, 0, 0), (6, .getfield 257, 3, 12, 22), (9, .if_icmp .ge 30, 3, 0, 0), (12, .iload_n 1, 1, 0, 0), (13, .ifCond .ne 14, 3, 0, 0), (16, .aload_n 0, 1, 0, 0), (17, .getfield 39, 3, 12, 17), (20, .iload_n 2, 1, 0, 0), (21, .iaload, 1, 0, 0), (22, .bipush 20, 2, 0, 0), (24, .if_icmp .ne 7, 3, 0, 0), (27, .iconst 1, 1, 0, 0), (28, .goto 4, 3, 0, 0), (31, .iconst 0, 1, 0, 0), (32, .istore_n 1, 1, 0, 0), (33, .iinc 2 1, 3, 0, 0), (36, .goto (-32), 3, 0, 0), (39, .iload_n 1, 1, 0, 0), (40, .ireturn, 1, 0, 0)]
set_option maxRecDepth 100000 in
theorem kX12_hasBracket : mTok cX12_hasBracket RX12 3 false tX12_hasBracket := mTok_of (by decide +kernel) ⟨trivial, trivial, trivial, trivial, trivial, trivial, ⟨_, rfl, lfRX12_257⟩, trivial, trivial, trivial, trivial, ⟨_, rfl, lfRX12_39⟩, trivial, trivial, trivial, trivial, trivial, trivial, trivial, trivial, trivial, trivial, trivial, trivial, trivial⟩
def tX12_formula : List mI := [(0, .aload_n 0, 1, 0, 0), (1, .invokevirtual 236, 3, 0, 0), (4, .aload_n 0, 1, 0, 0), (5, .iload_n 1, 1, 0, 0), (6, .putfield 254, 3, 12, 21), (9, .aload_n 0, 1, 0, 0), (10, .getfield 45, 3, 12, 19), (13, .aload_n 0, 1, 0, 0), (14, .getfield 254, 3, 12, 21), (17, .iconst 1, 1, 0, 0), (18, .bastore, 1, 0, 0), (19, .aload_n 0, 1, 0, 0), (20, .getfield 27, 3, 12, 13), (23, .aload_n 0, 1, 0, 0), (24, .getfield 254, 3, 12, 21), (27, .iconst 0, 1, 0, 0), (28, .iastore, 1, 0, 0), (29, .aload_n 0, 1, 0, 0), (30, .iconst 0, 1, 0, 0), (31, .putfield 257, 3, 12, 22), (34, .aload_n 0, 1, 0, 0), (35, .iconst 0, 1, 0, 0), (36, .putfield 267, 3, 12, 26), (39, .aload_n 0, 1, 0, 0), (40, .iconst 0, 1, 0, 0), (41, .putfield 273, 3, 12, 25), (44, .aload_n 0, 1, 0, 0), (45, .invokevirtual 292, 3, 0, 0), (48, .iconst 1, 1, 0, 0), (49, .istore_n 2, 1, 0, 0), (50, .iload_n 2, 1, 0, 0), (51, .ifCond .eq 126, 3, 0, 0), (54, .aload_n 0, 1, 0, 0), (55, .getfield 192, 3, 12, 2), (58, .ifCond .ne 119, 3, 0, 0), (61, .aload_n 0, 1, 0, 0), (62, .invokevirtual 295, 3, 0, 0), (65, .istore_n 3, 1, 0, 0), (66, .aload_n 0, 1, 0, 0), (67, .getfield 179, 3, 12, 6), (70, .bipush 41, 2, 0, 0), (72, .if_icmp .ne 42, 3, 0, 0), (75, .aload_n 0, 1, 0, 0), (76, .invokevirtual 298, 3, 0, 0), (79, .ifCond .eq 35, 3, 0, 0), (82, .aload_n 0, 1, 0, 0), (83, .iconst 0, 1, 0, 0), (84, .invokevirtual 301, 3, 0, 0), (87, .aload_n 0, 1, 0, 0), (88, .dup, 1, 0, 0), (89, .getfield 257, 3, 12, 22), (92, .iconst 1, 1, 0, 0), (93, .isub, 1, 0, 0), (94, .putfield 257, 3, 12, 22), (97, .aload_n 0, 1, 0, 0), (98, .dup, 1, 0, 0), (99, .getfield 267, 3, 12, 26), (102, .iconst 1, 1, 0, 0), (103, .isub, 1, 0, 0), (104, .putfield 267, 3, 12, 26), (107, .aload_n 0, 1, 0, 0), (108, .invokevirtual 236, 3, 0, 0), (111, .goto 63, 3, 0, 0), (114, .iload_n 3, 1, 0, 0), (115, .ifCond .eq 57, 3, 0, 0), (118, .iload_n 3, 1, 0, 0), (119, .invokestatic 260, 3, 0, 0), (122, .iconst 4, 1, 0, 0), (123, .if_icmp .ne 10, 3, 0, 0), (126, .aload_n 0, 1, 0, 0), (127, .invokevirtual 304, 3, 0, 0), (130, .ifCond .ne 42, 3, 0, 0), (133, .aload_n 0, 1, 0, 0), (134, .iload_n 3, 1, 0, 0), (135, .invokestatic 260, 3, 0, 0), (138, .invokevirtual 301, 3, 0, 0), (141, .aload_n 0, 1, 0, 0), (142, .getfield 39, 3, 12, 17), (145, .aload_n 0, 1, 0, 0), (146, .getfield 257, 3, 12, 22), (149, .iload_n 3, 1, 0, 0), (150, .iastore, 1, 0, 0), (151, .aload_n 0, 1, 0, 0), (152, .dup, 1, 0, 0), (153, .getfield 257, 3, 12, 22), (156, .iconst 1, 1, 0, 0), (157, .iadd, 1, 0, 0), (158, .putfield 257, 3, 12, 22), (161, .aload_n 0, 1, 0, 0), (162, .invokevirtual 236, 3, 0, 0), (165, .aload_n 0, 1, 0, 0), (166, .invokevirtual 292, 3, 0, 0), (169, .goto 5, 3, 0, 0), (172, .iconst 0, 1, 0, 0), (173, .istore_n 2, 1, 0, 0), (174, .goto (-124), 3, 0, 0), (177, .aload_n 0, 1, 0, 0), (178, .getfield 192, 3, 12, 2), (181, .ifCond .ne 15, 3, 0, 0), (184, .aload_n 0, 1, 0, 0), (185, .invokevirtual 298, 3, 0, 0), (188, .ifCond .eq 8, 3, 0, 0), (191, .aload_n 0, 1, 0, 0), (192, .iconst 2, 1, 0, 0), (193, .invokevirtual 233, 3, 0, 0), (196, .aload_n 0, 1, 0, 0), (197, .getfield 192, 3, 12, 2), (200, .ifCond .ne 8, 3, 0, 0), (203, .aload_n 0, 1, 0, 0), (204, .iconst 0, 1, 0, 0), (205, .invokevirtual 301, 3, 0, 0), (208, .return_, 1, 0, 0)]
set_option maxRecDepth 100000 in
theorem kX12_formula : mTok cX12_formula RX12 4 false tX12_formula := mTok_of (by decide +kernel) ⟨trivial, trivial, trivial, trivial, ⟨_, rfl, lfRX12_254, (fun z => by cases z)⟩, trivial, ⟨_, rfl, lfRX12_45⟩, trivial, ⟨_, rfl, lfRX12_254⟩, trivial, trivial, trivial, ⟨_, rfl, lfRX12_27⟩, trivial, ⟨_, rfl, lfRX12_254⟩, trivial, trivial, trivial, trivial, ⟨_, rfl, lfRX12_257, (fun z => by cases z)⟩, trivial, trivial, ⟨_, rfl, lfRX12_267, (fun z => by cases z)⟩, trivial, trivial, ⟨_, rfl, lfRX12_273, (fun z => by cases z)⟩, trivial, trivial, trivial, trivial, trivial, trivial, trivial, ⟨_, rfl, lfRX12_192⟩, trivial, trivial, trivial, trivial, trivial, ⟨_, rfl, lfRX12_179⟩, trivial, trivial, trivial, trivial, trivial, trivial, trivial, trivial, trivial, trivial, ⟨_, rfl, lfRX12_257⟩, trivial, trivial, ⟨_, rfl, lfRX12_257, (fun z => by cases z)⟩, trivial, trivial, ⟨_, rfl, lfRX12_267⟩, trivial, trivial, ⟨_, rfl, lfRX12_267, (fun z => by cases z)⟩, trivial, trivial, trivial, trivial, trivial, trivial, (fun z => by cases z), trivial, trivial, trivial, trivial, trivial, trivial, trivial, (fun z => by cases z), trivial, trivial, ⟨_, rfl, lfRX12_39⟩, trivial, ⟨_, rfl, lfRX12_257⟩, trivial, trivial, trivial, trivial, ⟨_, rfl, lfRX12_257⟩, trivial, trivial, ⟨_, rfl, lfRX12_257, (fun z => by cases z)⟩, trivial, trivial, trivial, trivial, trivial, trivial, trivial, trivial, trivial, ⟨_, rfl, lfRX12_192⟩, trivial, trivial, trivial, trivial, trivial, trivial, trivial, trivial, ⟨_, rfl, lfRX12_192⟩, trivial, trivial, trivial, trivial, trivial, trivial⟩
def tX12_truth : List mI := [(0, .iload_n 0, 1, 0, 0), (1, .ifCond .eq 7, 3, 0, 0), (4, .iconst 1, 1, 0, 0), (5, .goto 4, 3, 0, 0), (8, .iconst 0, 1, 0, 0), (9, .ireturn, 1, 0, 0)]
set_option maxRecDepth 100000 in
theorem kX12_truth : mTok cX12_truth RX12 1 false tX12_truth := mTok_of (by decide +kernel) ⟨trivial, trivial, trivial, trivial, trivial, trivial, trivial⟩
def tX12_done : List mI := [(0, .iload_n 0, 1, 0, 0), (1, .tableswitch 214 37 62 #[143, 197, 214, 214, 214, 127, 119, 214, 123, 214, 131, 214, 214, 214, 214, 214, 214, 214, 214, 214, 214, 214, 214, 155, 183, 169], 119, 0, 0), (120, .iload_n 1, 1, 0, 0), (121, .iload_n 2, 1, 0, 0), (122, .iadd, 1, 0, 0), (123, .ireturn, 1, 0, 0), (124, .iload_n 1, 1, 0, 0), (125, .iload_n 2, 1, 0, 0), (126, .isub, 1, 0, 0), (127, .ireturn, 1, 0, 0), (128, .iload_n 1, 1, 0, 0), (129, .iload_n 2, 1, 0, 0), (130, .imul, 1, 0, 0), (131, .ireturn, 1, 0, 0), (132, .iload_n 2, 1, 0, 0), (133, .ifCond .ne 7, 3, 0, 0), (136, .iconst 0, 1, 0, 0), (137, .goto 6, 3, 0, 0), (140, .iload_n 1, 1, 0, 0), (141, .iload_n 2, 1, 0, 0), (142, .idiv, 1, 0, 0), (143, .ireturn, 1, 0, 0), (144, .iload_n 2, 1, 0, 0), (145, .ifCond .ne 7, 3, 0, 0), (148, .iconst 0, 1, 0, 0), (149, .goto 6, 3, 0, 0), (152, .iload_n 1, 1, 0, 0), (153, .iload_n 2, 1, 0, 0), (154, .irem, 1, 0, 0), (155, .ireturn, 1, 0, 0), (156, .iload_n 1, 1, 0, 0), (157, .iload_n 2, 1, 0, 0), (158, .if_icmp .ge 7, 3, 0, 0), (161, .iconst 1, 1, 0, 0), (162, .goto 4, 3, 0, 0), (165, .iconst 0, 1, 0, 0), (166, .invokestatic 307, 3, 0, 0), (169, .ireturn, 1, 0, 0), (170, .iload_n 1, 1, 0, 0), (171, .iload_n 2, 1, 0, 0), (172, .if_icmp .le 7, 3, 0, 0), (175, .iconst 1, 1, 0, 0), (176, .goto 4, 3, 0, 0), (179, .iconst 0, 1, 0, 0), (180, .invokestatic 307, 3, 0, 0), (183, .ireturn, 1, 0, 0), (184, .iload_n 1, 1, 0, 0), (185, .iload_n 2, 1, 0, 0), (186, .if_icmp .ne 7, 3, 0, 0), (189, .iconst 1, 1, 0, 0), (190, .goto 4, 3, 0, 0), (193, .iconst 0, 1, 0, 0), (194, .invokestatic 307, 3, 0, 0), (197, .ireturn, 1, 0, 0), (198, .iload_n 1, 1, 0, 0), (199, .ifCond .eq 11, 3, 0, 0), (202, .iload_n 2, 1, 0, 0), (203, .ifCond .eq 7, 3, 0, 0), (206, .iconst 1, 1, 0, 0), (207, .goto 4, 3, 0, 0), (210, .iconst 0, 1, 0, 0), (211, .invokestatic 307, 3, 0, 0), (214, .ireturn, 1, 0, 0), (215, .iload_n 1, 1, 0, 0), (216, .ifCond .ne 7, 3, 0, 0), (219, .iload_n 2, 1, 0, 0), (220, .ifCond .eq 7, 3, 0, 0), (223, .iconst 1, 1, 0, 0), (224, .goto 4, 3, 0, 0), (227, .iconst 0, 1, 0, 0), (228, .invokestatic 307, 3, 0, 0), (231, .ireturn, 1, 0, 0)]
set_option maxRecDepth 100000 in
theorem kX12_done : mTok cX12_done RX12 3 false tX12_done := mTok_of (by decide +kernel) ⟨trivial, trivial, trivial, trivial, trivial, trivial, trivial, trivial, trivial, trivial, trivial, trivial, trivial, trivial, trivial, trivial, trivial, trivial, trivial, trivial, trivial, trivial, trivial, trivial, trivial, trivial, trivial, trivial, trivial, trivial, trivial, trivial, trivial, trivial, trivial, trivial, (fun z => by cases z), trivial, trivial, trivial, trivial, trivial, trivial, trivial, (fun z => by cases z), trivial, trivial, trivial, trivial, trivial, trivial, trivial, (fun z => by cases z), trivial, trivial, trivial, trivial, trivial, trivial, trivial, trivial, (fun z => by cases z), trivial, trivial, trivial, trivial, trivial, trivial, trivial, trivial, (fun z => by cases z), trivial, trivial⟩
def tX12_askOf : List mI := [(0, .aload_n 0, 1, 0, 0), (1, .getfield 52, 3, 12, 27), (4, .iconst 0, 1, 0, 0), (5, .iload_n 1, 1, 0, 0), (6, .iastore, 1, 0, 0), (7, .aload_n 0, 1, 0, 0), (8, .getfield 52, 3, 12, 27), (11, .iconst 1, 1, 0, 0), (12, .iload_n 2, 1, 0, 0), (13, .iastore, 1, 0, 0), (14, .aload_n 0, 1, 0, 0), (15, .getfield 52, 3, 12, 27), (18, .iconst 2, 1, 0, 0), (19, .iload_n 3, 1, 0, 0), (20, .iastore, 1, 0, 0), (21, .aload_n 0, 1, 0, 0), (22, .getfield 52, 3, 12, 27), (25, .iconst 3, 1, 0, 0), (26, .iload 4, 2, 0, 0), (28, .iastore, 1, 0, 0), (29, .aload_n 0, 1, 0, 0), (30, .getfield 52, 3, 12, 27), (33, .iconst 4, 1, 0, 0), (34, .iload 5, 2, 0, 0), (36, .iastore, 1, 0, 0), (37, .aload_n 0, 1, 0, 0), (38, .getfield 52, 3, 12, 27), (41, .iconst 5, 1, 0, 0), (42, .iload 6, 2, 0, 0), (44, .iastore, 1, 0, 0), (45, .return_, 1, 0, 0)]
set_option maxRecDepth 100000 in
theorem kX12_askOf : mTok cX12_askOf RX12 7 false tX12_askOf := mTok_of (by decide +kernel) ⟨trivial, ⟨_, rfl, lfRX12_52⟩, trivial, trivial, trivial, trivial, ⟨_, rfl, lfRX12_52⟩, trivial, trivial, trivial, trivial, ⟨_, rfl, lfRX12_52⟩, trivial, trivial, trivial, trivial, ⟨_, rfl, lfRX12_52⟩, trivial, trivial, trivial, trivial, ⟨_, rfl, lfRX12_52⟩, trivial, trivial, trivial, trivial, ⟨_, rfl, lfRX12_52⟩, trivial, trivial, trivial, trivial, trivial⟩
def tX12_worked : List mI := [(0, .iconst 0, 1, 0, 0), (1, .istore_n 2, 1, 0, 0), (2, .sipush 320, 3, 0, 0), (5, .iload_n 1, 1, 0, 0), (6, .imul, 1, 0, 0), (7, .istore_n 3, 1, 0, 0), (8, .iload_n 3, 1, 0, 0), (9, .sipush 320, 3, 0, 0), (12, .iload_n 1, 1, 0, 0), (13, .imul, 1, 0, 0), (14, .aload_n 0, 1, 0, 0), (15, .getfield 36, 3, 12, 16), (18, .iload_n 1, 1, 0, 0), (19, .iaload, 1, 0, 0), (20, .iadd, 1, 0, 0), (21, .if_icmp .ge 143, 3, 0, 0), (24, .aload_n 0, 1, 0, 0), (25, .getfield 30, 3, 12, 14), (28, .iload_n 3, 1, 0, 0), (29, .iaload, 1, 0, 0), (30, .ifCond .eq 13, 3, 0, 0), (33, .aload_n 0, 1, 0, 0), (34, .getfield 30, 3, 12, 14), (37, .iload_n 3, 1, 0, 0), (38, .iaload, 1, 0, 0), (39, .iconst 1, 1, 0, 0), (40, .if_icmp .ne 44, 3, 0, 0), (43, .aload_n 0, 1, 0, 0), (44, .getfield 42, 3, 12, 18), (47, .iload_n 2, 1, 0, 0), (48, .aload_n 0, 1, 0, 0), (49, .getfield 30, 3, 12, 14), (52, .iload_n 3, 1, 0, 0), (53, .iaload, 1, 0, 0), (54, .ifCond .ne 12, 3, 0, 0), (57, .aload_n 0, 1, 0, 0), (58, .getfield 33, 3, 12, 15), (61, .iload_n 3, 1, 0, 0), (62, .iaload, 1, 0, 0), (63, .goto 14, 3, 0, 0), (66, .aload_n 0, 1, 0, 0), (67, .getfield 52, 3, 12, 27), (70, .aload_n 0, 1, 0, 0), (71, .getfield 33, 3, 12, 15), (74, .iload_n 3, 1, 0, 0), (75, .iaload, 1, 0, 0), (76, .iaload, 1, 0, 0), (77, .iastore, 1, 0, 0), (78, .iinc 2 1, 3, 0, 0), (81, .goto 77, 3, 0, 0), (84, .aload_n 0, 1, 0, 0), (85, .getfield 30, 3, 12, 14), (88, .iload_n 3, 1, 0, 0), (89, .iaload, 1, 0, 0), (90, .iconst 2, 1, 0, 0), (91, .if_icmp .ne 33, 3, 0, 0), (94, .aload_n 0, 1, 0, 0), (95, .getfield 42, 3, 12, 18), (98, .iload_n 2, 1, 0, 0), (99, .iconst 1, 1, 0, 0), (100, .isub, 1, 0, 0), (101, .aload_n 0, 1, 0, 0), (102, .getfield 42, 3, 12, 18), (105, .iload_n 2, 1, 0, 0), (106, .iconst 1, 1, 0, 0), (107, .isub, 1, 0, 0), (108, .iaload, 1, 0, 0), (109, .ifCond .ne 7, 3, 0, 0), (112, .iconst 1, 1, 0, 0), (113, .goto 4, 3, 0, 0), (116, .iconst 0, 1, 0, 0), (117, .invokestatic 307, 3, 0, 0), (120, .iastore, 1, 0, 0), (121, .goto 37, 3, 0, 0), (124, .iinc 2 (-1), 3, 0, 0), (127, .aload_n 0, 1, 0, 0), (128, .getfield 42, 3, 12, 18), (131, .iload_n 2, 1, 0, 0), (132, .iconst 1, 1, 0, 0), (133, .isub, 1, 0, 0), (134, .aload_n 0, 1, 0, 0), (135, .getfield 33, 3, 12, 15), (138, .iload_n 3, 1, 0, 0), (139, .iaload, 1, 0, 0), (140, .aload_n 0, 1, 0, 0), (141, .getfield 42, 3, 12, 18), (144, .iload_n 2, 1, 0, 0), (145, .iconst 1, 1, 0, 0), (146, .isub, 1, 0, 0), (147, .iaload, 1, 0, 0), (148, .aload_n 0, 1, 0, 0), (149, .getfield 42, 3, 12, 18), (152, .iload_n 2, 1, 0, 0), (153, .iaload, 1, 0, 0), (154, .invokestatic 311, 3, 0, 0), (157, .iastore, 1, 0, 0), (158, .iinc 3 1, 3, 0, 0), (161, .goto (-153), 3, 0, 0), (164, .aload_n 0, 1, 0, 0), (165, .getfield 42, 3, 12, 18), (168, .iconst 0, 1, 0, 0), (169, .iaload, 1, 0, 0), (170, .ireturn, 1, 0, 0)]
set_option maxRecDepth 100000 in
theorem kX12_worked : mTok cX12_worked RX12 4 false tX12_worked := mTok_of (by decide +kernel) ⟨trivial, trivial, trivial, trivial, trivial, trivial, trivial, trivial, trivial, trivial, trivial, ⟨_, rfl, lfRX12_36⟩, trivial, trivial, trivial, trivial, trivial, ⟨_, rfl, lfRX12_30⟩, trivial, trivial, trivial, trivial, ⟨_, rfl, lfRX12_30⟩, trivial, trivial, trivial, trivial, trivial, ⟨_, rfl, lfRX12_42⟩, trivial, trivial, ⟨_, rfl, lfRX12_30⟩, trivial, trivial, trivial, trivial, ⟨_, rfl, lfRX12_33⟩, trivial, trivial, trivial, trivial, ⟨_, rfl, lfRX12_52⟩, trivial, ⟨_, rfl, lfRX12_33⟩, trivial, trivial, trivial, trivial, trivial, trivial, trivial, ⟨_, rfl, lfRX12_30⟩, trivial, trivial, trivial, trivial, trivial, ⟨_, rfl, lfRX12_42⟩, trivial, trivial, trivial, trivial, ⟨_, rfl, lfRX12_42⟩, trivial, trivial, trivial, trivial, trivial, trivial, trivial, trivial, (fun z => by cases z), trivial, trivial, trivial, trivial, ⟨_, rfl, lfRX12_42⟩, trivial, trivial, trivial, trivial, ⟨_, rfl, lfRX12_33⟩, trivial, trivial, trivial, ⟨_, rfl, lfRX12_42⟩, trivial, trivial, trivial, trivial, trivial, ⟨_, rfl, lfRX12_42⟩, trivial, trivial, (fun z => by cases z), trivial, trivial, trivial, trivial, ⟨_, rfl, lfRX12_42⟩, trivial, trivial, trivial, trivial⟩
def tX12_readHouse : List mI := [(0, .aload_n 0, 1, 0, 0), (1, .invokevirtual 236, 3, 0, 0), (4, .aload_n 0, 1, 0, 0), (5, .invokevirtual 315, 3, 0, 0), (8, .ifCond .ne 11, 3, 0, 0), (11, .aload_n 0, 1, 0, 0), (12, .iconst 2, 1, 0, 0), (13, .invokevirtual 233, 3, 0, 0), (16, .goto 15, 3, 0, 0), (19, .aload_n 0, 1, 0, 0), (20, .invokevirtual 318, 3, 0, 0), (23, .ifCond .lt 8, 3, 0, 0), (26, .aload_n 0, 1, 0, 0), (27, .iconst 3, 1, 0, 0), (28, .invokevirtual 233, 3, 0, 0), (31, .aload_n 0, 1, 0, 0), (32, .getfield 192, 3, 12, 2), (35, .ifCond .le 4, 3, 0, 0), (38, .return_, 1, 0, 0), (39, .aload_n 0, 1, 0, 0), (40, .getfield 251, 3, 12, 35), (43, .istore_n 1, 1, 0, 0), (44, .aload_n 0, 1, 0, 0), (45, .getfield 17, 3, 12, 10), (48, .iload_n 1, 1, 0, 0), (49, .aload_n 0, 1, 0, 0), (50, .getfield 172, 3, 12, 9), (53, .lastore, 1, 0, 0), (54, .aload_n 0, 1, 0, 0), (55, .invokevirtual 236, 3, 0, 0), (58, .aload_n 0, 1, 0, 0), (59, .getfield 55, 3, 12, 28), (62, .iload_n 1, 1, 0, 0), (63, .aload_n 0, 1, 0, 0), (64, .ldc2_w 197, 3, 24948, 0), (67, .iconst 0, 1, 0, 0), (68, .bipush 60, 2, 0, 0), (70, .invokevirtual 247, 3, 0, 0), (73, .iastore, 1, 0, 0), (74, .aload_n 0, 1, 0, 0), (75, .getfield 58, 3, 12, 29), (78, .iload_n 1, 1, 0, 0), (79, .aload_n 0, 1, 0, 0), (80, .ldc2_w 199, 3, 448377480307, 0), (83, .iconst 0, 1, 0, 0), (84, .bipush 7, 2, 0, 0), (86, .invokevirtual 247, 3, 0, 0), (89, .iastore, 1, 0, 0), (90, .aload_n 0, 1, 0, 0), (91, .getfield 61, 3, 12, 30), (94, .iload_n 1, 1, 0, 0), (95, .aload_n 0, 1, 0, 0), (96, .ldc2_w 201, 3, 6971757, 0), (99, .invokevirtual 321, 3, 0, 0), (102, .iastore, 1, 0, 0), (103, .aload_n 0, 1, 0, 0), (104, .getfield 64, 3, 12, 31), (107, .iload_n 1, 1, 0, 0), (108, .aload_n 0, 1, 0, 0), (109, .ldc2_w 203, 3, 448310438260, 0), (112, .invokevirtual 321, 3, 0, 0), (115, .iastore, 1, 0, 0), (116, .aload_n 0, 1, 0, 0), (117, .getfield 192, 3, 12, 2), (120, .ifCond .ne 13, 3, 0, 0), (123, .aload_n 0, 1, 0, 0), (124, .dup, 1, 0, 0), (125, .getfield 251, 3, 12, 35), (128, .iconst 1, 1, 0, 0), (129, .iadd, 1, 0, 0), (130, .putfield 251, 3, 12, 35), (133, .return_, 1, 0, 0)]
set_option maxRecDepth 100000 in
theorem kX12_readHouse : mTok cX12_readHouse RX12 2 false tX12_readHouse := mTok_of (by decide +kernel) ⟨trivial, trivial, trivial, trivial, trivial, trivial, trivial, trivial, trivial, trivial, trivial, trivial, trivial, trivial, trivial, trivial, ⟨_, rfl, lfRX12_192⟩, trivial, trivial, trivial, ⟨_, rfl, lfRX12_251⟩, trivial, trivial, ⟨_, rfl, lfRX12_17⟩, trivial, trivial, ⟨_, rfl, lfRX12_172⟩, trivial, trivial, trivial, trivial, ⟨_, rfl, lfRX12_55⟩, trivial, trivial, lcRX12_197, trivial, trivial, trivial, trivial, trivial, ⟨_, rfl, lfRX12_58⟩, trivial, trivial, lcRX12_199, trivial, trivial, trivial, trivial, trivial, ⟨_, rfl, lfRX12_61⟩, trivial, trivial, lcRX12_201, trivial, trivial, trivial, ⟨_, rfl, lfRX12_64⟩, trivial, trivial, lcRX12_203, trivial, trivial, trivial, ⟨_, rfl, lfRX12_192⟩, trivial, trivial, trivial, ⟨_, rfl, lfRX12_251⟩, trivial, trivial, ⟨_, rfl, lfRX12_251, (fun z => by cases z)⟩, trivial, trivial⟩
def tX12_readLine : List mI := [(0, .aload_n 0, 1, 0, 0), (1, .ldc2_w 195, 3, 448546567013, 0), (4, .invokevirtual 229, 3, 0, 0), (7, .ifCond .eq 18, 3, 0, 0), (10, .aload_n 0, 1, 0, 0), (11, .getfield 251, 3, 12, 35), (14, .iconst 5, 1, 0, 0), (15, .if_icmp .ge 10, 3, 0, 0), (18, .aload_n 0, 1, 0, 0), (19, .invokevirtual 325, 3, 0, 0), (22, .goto 129, 3, 0, 0), (25, .aload_n 0, 1, 0, 0), (26, .ldc2_w 205, 3, 1936746868, 0), (29, .invokevirtual 229, 3, 0, 0), (32, .ifCond .eq 20, 3, 0, 0), (35, .aload_n 0, 1, 0, 0), (36, .getfield 45, 3, 12, 19), (39, .iconst 0, 1, 0, 0), (40, .baload, 1, 0, 0), (41, .ifCond .ne 11, 3, 0, 0), (44, .aload_n 0, 1, 0, 0), (45, .iconst 0, 1, 0, 0), (46, .invokevirtual 328, 3, 0, 0), (49, .goto 102, 3, 0, 0), (52, .aload_n 0, 1, 0, 0), (53, .ldc2_w 207, 3, 7627128, 0), (56, .invokevirtual 229, 3, 0, 0), (59, .ifCond .eq 20, 3, 0, 0), (62, .aload_n 0, 1, 0, 0), (63, .getfield 45, 3, 12, 19), (66, .iconst 1, 1, 0, 0), (67, .baload, 1, 0, 0), (68, .ifCond .ne 11, 3, 0, 0), (71, .aload_n 0, 1, 0, 0), (72, .iconst 1, 1, 0, 0), (73, .invokevirtual 328, 3, 0, 0), (76, .goto 75, 3, 0, 0), (79, .aload_n 0, 1, 0, 0), (80, .ldc2_w 209, 3, 1735552887, 0), (83, .invokevirtual 229, 3, 0, 0), (86, .ifCond .eq 20, 3, 0, 0), (89, .aload_n 0, 1, 0, 0), (90, .getfield 45, 3, 12, 19), (93, .iconst 2, 1, 0, 0), (94, .baload, 1, 0, 0), (95, .ifCond .ne 11, 3, 0, 0), (98, .aload_n 0, 1, 0, 0), (99, .iconst 2, 1, 0, 0), (100, .invokevirtual 328, 3, 0, 0), (103, .goto 48, 3, 0, 0), (106, .aload_n 0, 1, 0, 0), (107, .ldc2_w 211, 3, 1685217655, 0), (110, .invokevirtual 229, 3, 0, 0), (113, .ifCond .eq 33, 3, 0, 0), (116, .aload_n 0, 1, 0, 0), (117, .getfield 331, 3, 12, 38), (120, .ifCond .ne 26, 3, 0, 0), (123, .aload_n 0, 1, 0, 0), (124, .iconst 1, 1, 0, 0), (125, .putfield 331, 3, 12, 38), (128, .aload_n 0, 1, 0, 0), (129, .aload_n 0, 1, 0, 0), (130, .ldc2_w 211, 3, 1685217655, 0), (133, .iconst 0, 1, 0, 0), (134, .sipush 999, 3, 0, 0), (137, .invokevirtual 247, 3, 0, 0), (140, .putfield 335, 3, 12, 36), (143, .goto 8, 3, 0, 0), (146, .aload_n 0, 1, 0, 0), (147, .iconst 2, 1, 0, 0), (148, .invokevirtual 233, 3, 0, 0), (151, .aload_n 0, 1, 0, 0), (152, .getfield 192, 3, 12, 2), (155, .ifCond .ne 17, 3, 0, 0), (158, .aload_n 0, 1, 0, 0), (159, .getfield 179, 3, 12, 6), (162, .bipush 59, 2, 0, 0), (164, .if_icmp .eq 8, 3, 0, 0), (167, .aload_n 0, 1, 0, 0), (168, .iconst 2, 1, 0, 0), (169, .invokevirtual 233, 3, 0, 0), (172, .aload_n 0, 1, 0, 0), (173, .getfield 192, 3, 12, 2), (176, .ifCond .ne 7, 3, 0, 0), (179, .aload_n 0, 1, 0, 0), (180, .invokevirtual 236, 3, 0, 0), (183, .return_, 1, 0, 0)]
set_option maxRecDepth 100000 in
theorem kX12_readLine : mTok cX12_readLine RX12 1 false tX12_readLine := mTok_of (by decide +kernel) ⟨trivial, lcRX12_195, trivial, trivial, trivial, ⟨_, rfl, lfRX12_251⟩, trivial, trivial, trivial, trivial, trivial, trivial, lcRX12_205, trivial, trivial, trivial, ⟨_, rfl, lfRX12_45⟩, trivial, trivial, trivial, trivial, trivial, trivial, trivial, trivial, lcRX12_207, trivial, trivial, trivial, ⟨_, rfl, lfRX12_45⟩, trivial, trivial, trivial, trivial, trivial, trivial, trivial, trivial, lcRX12_209, trivial, trivial, trivial, ⟨_, rfl, lfRX12_45⟩, trivial, trivial, trivial, trivial, trivial, trivial, trivial, trivial, lcRX12_211, trivial, trivial, trivial, ⟨_, rfl, lfRX12_331⟩, trivial, trivial, trivial, ⟨_, rfl, lfRX12_331, (fun z => by cases z)⟩, trivial, trivial, lcRX12_211, trivial, trivial, trivial, ⟨_, rfl, lfRX12_335, (fun z => by cases z)⟩, trivial, trivial, trivial, trivial, trivial, ⟨_, rfl, lfRX12_192⟩, trivial, trivial, ⟨_, rfl, lfRX12_179⟩, trivial, trivial, trivial, trivial, trivial, trivial, ⟨_, rfl, lfRX12_192⟩, trivial, trivial, trivial, trivial, trivial⟩
def tX12_readAll : List mI := [(0, .aload_n 0, 1, 0, 0), (1, .aload_n 0, 1, 0, 0), (2, .getfield 152, 3, 12, 1), (5, .putfield 162, 3, 12, 5), (8, .aload_n 0, 1, 0, 0), (9, .iconst 0, 1, 0, 0), (10, .putfield 152, 3, 12, 1), (13, .aload_n 0, 1, 0, 0), (14, .iconst 0, 1, 0, 0), (15, .putfield 159, 3, 12, 4), (18, .aload_n 0, 1, 0, 0), (19, .iconst 0, 1, 0, 0), (20, .putfield 192, 3, 12, 2), (23, .aload_n 0, 1, 0, 0), (24, .iconst (-1), 1, 0, 0), (25, .putfield 13, 3, 12, 3), (28, .aload_n 0, 1, 0, 0), (29, .iconst 0, 1, 0, 0), (30, .putfield 251, 3, 12, 35), (33, .aload_n 0, 1, 0, 0), (34, .iconst 0, 1, 0, 0), (35, .putfield 335, 3, 12, 36), (38, .aload_n 0, 1, 0, 0), (39, .iconst 0, 1, 0, 0), (40, .putfield 331, 3, 12, 38), (43, .aload_n 0, 1, 0, 0), (44, .iconst 0, 1, 0, 0), (45, .putfield 270, 3, 12, 23), (48, .iconst 0, 1, 0, 0), (49, .istore_n 1, 1, 0, 0), (50, .iload_n 1, 1, 0, 0), (51, .iconst 3, 1, 0, 0), (52, .if_icmp .ge 16, 3, 0, 0), (55, .aload_n 0, 1, 0, 0), (56, .getfield 45, 3, 12, 19), (59, .iload_n 1, 1, 0, 0), (60, .iconst 0, 1, 0, 0), (61, .bastore, 1, 0, 0), (62, .iinc 1 1, 3, 0, 0), (65, .goto (-15), 3, 0, 0), (68, .aload_n 0, 1, 0, 0), (69, .invokevirtual 236, 3, 0, 0), (72, .aload_n 0, 1, 0, 0), (73, .getfield 192, 3, 12, 2), (76, .ifCond .ne 17, 3, 0, 0), (79, .aload_n 0, 1, 0, 0), (80, .getfield 179, 3, 12, 6), (83, .ifCond .eq 10, 3, 0, 0), (86, .aload_n 0, 1, 0, 0), (87, .invokevirtual 338, 3, 0, 0), (90, .goto (-18), 3, 0, 0), (93, .return_, 1, 0, 0)]
set_option maxRecDepth 100000 in
theorem kX12_readAll : mTok cX12_readAll RX12 2 false tX12_readAll := mTok_of (by decide +kernel) ⟨trivial, trivial, ⟨_, rfl, lfRX12_152⟩, ⟨_, rfl, lfRX12_162, (fun z => by cases z)⟩, trivial, trivial, ⟨_, rfl, lfRX12_152, (fun z => by cases z)⟩, trivial, trivial, ⟨_, rfl, lfRX12_159, (fun z => by cases z)⟩, trivial, trivial, ⟨_, rfl, lfRX12_192, (fun z => by cases z)⟩, trivial, trivial, ⟨_, rfl, lfRX12_13, (fun z => by cases z)⟩, trivial, trivial, ⟨_, rfl, lfRX12_251, (fun z => by cases z)⟩, trivial, trivial, ⟨_, rfl, lfRX12_335, (fun z => by cases z)⟩, trivial, trivial, ⟨_, rfl, lfRX12_331, (fun z => by cases z)⟩, trivial, trivial, ⟨_, rfl, lfRX12_270, (fun z => by cases z)⟩, trivial, trivial, trivial, trivial, trivial, trivial, ⟨_, rfl, lfRX12_45⟩, trivial, trivial, trivial, trivial, trivial, trivial, trivial, trivial, ⟨_, rfl, lfRX12_192⟩, trivial, trivial, ⟨_, rfl, lfRX12_179⟩, trivial, trivial, trivial, trivial, trivial, trivial⟩
def tX12_province : List mI := [(0, .aload_n 0, 1, 0, 0), (1, .invokevirtual 341, 3, 0, 0), (4, .aload_n 0, 1, 0, 0), (5, .getfield 192, 3, 12, 2), (8, .ifCond .le 5, 3, 0, 0), (11, .iconst (-1), 1, 0, 0), (12, .ireturn, 1, 0, 0), (13, .aload_n 0, 1, 0, 0), (14, .aload_n 0, 1, 0, 0), (15, .getfield 251, 3, 12, 35), (18, .putfield 344, 3, 12, 37), (21, .aload_n 0, 1, 0, 0), (22, .aload_n 0, 1, 0, 0), (23, .getfield 270, 3, 12, 23), (26, .putfield 347, 3, 12, 24), (29, .iconst 0, 1, 0, 0), (30, .istore_n 1, 1, 0, 0), (31, .iload_n 1, 1, 0, 0), (32, .iconst 3, 1, 0, 0), (33, .if_icmp .ge 98, 3, 0, 0), (36, .aload_n 0, 1, 0, 0), (37, .getfield 49, 3, 12, 20), (40, .iload_n 1, 1, 0, 0), (41, .aload_n 0, 1, 0, 0), (42, .getfield 45, 3, 12, 19), (45, .iload_n 1, 1, 0, 0), (46, .baload, 1, 0, 0), (47, .bastore, 1, 0, 0), (48, .aload_n 0, 1, 0, 0), (49, .getfield 36, 3, 12, 16), (52, .iload_n 1, 1, 0, 0), (53, .aload_n 0, 1, 0, 0), (54, .getfield 49, 3, 12, 20), (57, .iload_n 1, 1, 0, 0), (58, .baload, 1, 0, 0), (59, .ifCond .eq 12, 3, 0, 0), (62, .aload_n 0, 1, 0, 0), (63, .getfield 27, 3, 12, 13), (66, .iload_n 1, 1, 0, 0), (67, .iaload, 1, 0, 0), (68, .goto 4, 3, 0, 0), (71, .iconst 0, 1, 0, 0), (72, .iastore, 1, 0, 0), (73, .sipush 320, 3, 0, 0), (76, .iload_n 1, 1, 0, 0), (77, .imul, 1, 0, 0), (78, .istore_n 2, 1, 0, 0), (79, .iload_n 2, 1, 0, 0), (80, .sipush 320, 3, 0, 0), (83, .iload_n 1, 1, 0, 0), (84, .imul, 1, 0, 0), (85, .aload_n 0, 1, 0, 0), (86, .getfield 36, 3, 12, 16), (89, .iload_n 1, 1, 0, 0), (90, .iaload, 1, 0, 0), (91, .iadd, 1, 0, 0), (92, .if_icmp .ge 33, 3, 0, 0), (95, .aload_n 0, 1, 0, 0), (96, .getfield 30, 3, 12, 14), (99, .iload_n 2, 1, 0, 0), (100, .aload_n 0, 1, 0, 0), (101, .getfield 21, 3, 12, 11), (104, .iload_n 2, 1, 0, 0), (105, .iaload, 1, 0, 0), (106, .iastore, 1, 0, 0), (107, .aload_n 0, 1, 0, 0), (108, .getfield 33, 3, 12, 15), (111, .iload_n 2, 1, 0, 0), (112, .aload_n 0, 1, 0, 0), (113, .getfield 24, 3, 12, 12), (116, .iload_n 2, 1, 0, 0), (117, .iaload, 1, 0, 0), (118, .iastore, 1, 0, 0), (119, .iinc 2 1, 3, 0, 0), (122, .goto (-43), 3, 0, 0), (125, .iinc 1 1, 3, 0, 0), (128, .goto (-97), 3, 0, 0), (131, .iconst 0, 1, 0, 0), (132, .istore_n 1, 1, 0, 0), (133, .iload_n 1, 1, 0, 0), (134, .bipush 17, 2, 0, 0), (136, .if_icmp .ge 16, 3, 0, 0), (139, .aload_n 0, 1, 0, 0), (140, .getfield 76, 3, 12, 39), (143, .iload_n 1, 1, 0, 0), (144, .iconst 0, 1, 0, 0), (145, .iastore, 1, 0, 0), (146, .iinc 1 1, 3, 0, 0), (149, .goto (-16), 3, 0, 0), (152, .iconst 0, 1, 0, 0), (153, .istore_n 1, 1, 0, 0), (154, .iload_n 1, 1, 0, 0), (155, .iconst 5, 1, 0, 0), (156, .if_icmp .ge 69, 3, 0, 0), (159, .aload_n 0, 1, 0, 0), (160, .getfield 67, 3, 12, 32), (163, .iload_n 1, 1, 0, 0), (164, .aload_n 0, 1, 0, 0), (165, .getfield 55, 3, 12, 28), (168, .iload_n 1, 1, 0, 0), (169, .iaload, 1, 0, 0), (170, .iastore, 1, 0, 0), (171, .aload_n 0, 1, 0, 0), (172, .getfield 70, 3, 12, 33), (175, .iload_n 1, 1, 0, 0), (176, .aload_n 0, 1, 0, 0), (177, .getfield 61, 3, 12, 30), (180, .iload_n 1, 1, 0, 0), (181, .iaload, 1, 0, 0), (182, .iastore, 1, 0, 0), (183, .aload_n 0, 1, 0, 0), (184, .getfield 73, 3, 12, 34), (187, .iload_n 1, 1, 0, 0), (188, .aload_n 0, 1, 0, 0), (189, .getfield 64, 3, 12, 31), (192, .iload_n 1, 1, 0, 0), (193, .iaload, 1, 0, 0), (194, .iastore, 1, 0, 0), (195, .aload_n 0, 1, 0, 0), (196, .getfield 76, 3, 12, 39), (199, .iload_n 1, 1, 0, 0), (200, .iload_n 1, 1, 0, 0), (201, .aload_n 0, 1, 0, 0), (202, .getfield 344, 3, 12, 37), (205, .if_icmp .ge 12, 3, 0, 0), (208, .aload_n 0, 1, 0, 0), (209, .getfield 58, 3, 12, 29), (212, .iload_n 1, 1, 0, 0), (213, .iaload, 1, 0, 0), (214, .goto 4, 3, 0, 0), (217, .iconst 0, 1, 0, 0), (218, .iastore, 1, 0, 0), (219, .iinc 1 1, 3, 0, 0), (222, .goto (-68), 3, 0, 0), (225, .aload_n 0, 1, 0, 0), (226, .getfield 76, 3, 12, 39), (229, .bipush 16, 2, 0, 0), (231, .aload_n 0, 1, 0, 0), (232, .getfield 335, 3, 12, 36), (235, .iastore, 1, 0, 0), (236, .aload_n 0, 1, 0, 0), (237, .iconst 0, 1, 0, 0), (238, .putfield 350, 3, 12, 46), (241, .aload_n 0, 1, 0, 0), (242, .iconst 0, 1, 0, 0), (243, .putfield 353, 3, 12, 47), (246, .aload_n 0, 1, 0, 0), (247, .iconst 0, 1, 0, 0), (248, .putfield 356, 3, 12, 66), (251, .aload_n 0, 1, 0, 0), (252, .iconst 0, 1, 0, 0), (253, .putfield 359, 3, 12, 51), (256, .iconst 0, 1, 0, 0), (257, .istore_n 1, 1, 0, 0), (258, .iload_n 1, 1, 0, 0), (259, .iconst 3, 1, 0, 0), (260, .if_icmp .ge 16, 3, 0, 0), (263, .aload_n 0, 1, 0, 0), (264, .getfield 146, 3, 12, 71), (267, .iload_n 1, 1, 0, 0), (268, .iconst 0, 1, 0, 0), (269, .bastore, 1, 0, 0), (270, .iinc 1 1, 3, 0, 0), (273, .goto (-15), 3, 0, 0), (276, .aload_n 0, 1, 0, 0), (277, .getfield 344, 3, 12, 37), (280, .ireturn, 1, 0, 0)]
set_option maxRecDepth 100000 in
theorem kX12_province : mTok cX12_province RX12 3 false tX12_province := mTok_of (by decide +kernel) ⟨trivial, trivial, trivial, ⟨_, rfl, lfRX12_192⟩, trivial, trivial, trivial, trivial, trivial, ⟨_, rfl, lfRX12_251⟩, ⟨_, rfl, lfRX12_344, (fun z => by cases z)⟩, trivial, trivial, ⟨_, rfl, lfRX12_270⟩, ⟨_, rfl, lfRX12_347, (fun z => by cases z)⟩, trivial, trivial, trivial, trivial, trivial, trivial, ⟨_, rfl, lfRX12_49⟩, trivial, trivial, ⟨_, rfl, lfRX12_45⟩, trivial, trivial, trivial, trivial, ⟨_, rfl, lfRX12_36⟩, trivial, trivial, ⟨_, rfl, lfRX12_49⟩, trivial, trivial, trivial, trivial, ⟨_, rfl, lfRX12_27⟩, trivial, trivial, trivial, trivial, trivial, trivial, trivial, trivial, trivial, trivial, trivial, trivial, trivial, trivial, ⟨_, rfl, lfRX12_36⟩, trivial, trivial, trivial, trivial, trivial, ⟨_, rfl, lfRX12_30⟩, trivial, trivial, ⟨_, rfl, lfRX12_21⟩, trivial, trivial, trivial, trivial, ⟨_, rfl, lfRX12_33⟩, trivial, trivial, ⟨_, rfl, lfRX12_24⟩, trivial, trivial, trivial, trivial, trivial, trivial, trivial, trivial, trivial, trivial, trivial, trivial, trivial, ⟨_, rfl, lfRX12_76⟩, trivial, trivial, trivial, trivial, trivial, trivial, trivial, trivial, trivial, trivial, trivial, ⟨_, rfl, lfRX12_67⟩, trivial, trivial, ⟨_, rfl, lfRX12_55⟩, trivial, trivial, trivial, trivial, ⟨_, rfl, lfRX12_70⟩, trivial, trivial, ⟨_, rfl, lfRX12_61⟩, trivial, trivial, trivial, trivial, ⟨_, rfl, lfRX12_73⟩, trivial, trivial, ⟨_, rfl, lfRX12_64⟩, trivial, trivial, trivial, trivial, ⟨_, rfl, lfRX12_76⟩, trivial, trivial, trivial, ⟨_, rfl, lfRX12_344⟩, trivial, trivial, ⟨_, rfl, lfRX12_58⟩, trivial, trivial, trivial, trivial, trivial, trivial, trivial, trivial, ⟨_, rfl, lfRX12_76⟩, trivial, trivial, ⟨_, rfl, lfRX12_335⟩, trivial, trivial, trivial, ⟨_, rfl, lfRX12_350, (fun z => by cases z)⟩, trivial, trivial, ⟨_, rfl, lfRX12_353, (fun z => by cases z)⟩, trivial, trivial, ⟨_, rfl, lfRX12_356, (fun z => by cases z)⟩, trivial, trivial, ⟨_, rfl, lfRX12_359, (fun z => by cases z)⟩, trivial, trivial, trivial, trivial, trivial, trivial, ⟨_, rfl, lfRX12_146⟩, trivial, trivial, trivial, trivial, trivial, trivial, ⟨_, rfl, lfRX12_344⟩, trivial, trivial⟩
def tX12_fault : List mI := [(0, .iload_n 1, 1, 0, 0), (1, .ifCond .ne 10, 3, 0, 0), (4, .aload_n 0, 1, 0, 0), (5, .getfield 192, 3, 12, 2), (8, .goto 16, 3, 0, 0), (11, .iload_n 1, 1, 0, 0), (12, .iconst 1, 1, 0, 0), (13, .if_icmp .ne 10, 3, 0, 0), (16, .aload_n 0, 1, 0, 0), (17, .getfield 13, 3, 12, 3), (20, .goto 4, 3, 0, 0), (23, .iconst (-1), 1, 0, 0), (24, .ireturn, 1, 0, 0)]
set_option maxRecDepth 100000 in
theorem kX12_fault : mTok cX12_fault RX12 2 false tX12_fault := mTok_of (by decide +kernel) ⟨trivial, trivial, trivial, ⟨_, rfl, lfRX12_192⟩, trivial, trivial, trivial, trivial, trivial, ⟨_, rfl, lfRX12_13⟩, trivial, trivial, trivial, trivial⟩
def tX12_isIn : List mI := [(0, .iload_n 0, 1, 0, 0), (1, .iload_n 1, 1, 0, 0), (2, .if_icmp .lt 12, 3, 0, 0), (5, .iload_n 0, 1, 0, 0), (6, .iload_n 2, 1, 0, 0), (7, .if_icmp .gt 7, 3, 0, 0), (10, .iconst 1, 1, 0, 0), (11, .goto 4, 3, 0, 0), (14, .iconst 0, 1, 0, 0), (15, .ireturn, 1, 0, 0)]
set_option maxRecDepth 100000 in
theorem kX12_isIn : mTok cX12_isIn RX12 3 false tX12_isIn := mTok_of (by decide +kernel) ⟨trivial, trivial, trivial, trivial, trivial, trivial, trivial, trivial, trivial, trivial, trivial⟩
def tX12_bound : List mI := [(0, .iload_n 0, 1, 0, 0), (1, .iload_n 1, 1, 0, 0), (2, .if_icmp .ge 7, 3, 0, 0), (5, .iload_n 1, 1, 0, 0), (6, .goto 13, 3, 0, 0), (9, .iload_n 0, 1, 0, 0), (10, .iload_n 2, 1, 0, 0), (11, .if_icmp .le 7, 3, 0, 0), (14, .iload_n 2, 1, 0, 0), (15, .goto 4, 3, 0, 0), (18, .iload_n 0, 1, 0, 0), (19, .ireturn, 1, 0, 0)]
set_option maxRecDepth 100000 in
theorem kX12_bound : mTok cX12_bound RX12 3 false tX12_bound := mTok_of (by decide +kernel) ⟨trivial, trivial, trivial, trivial, trivial, trivial, trivial, trivial, trivial, trivial, trivial, trivial, trivial⟩
def tX12_isHouse : List mI := [(0, .iload_n 1, 1, 0, 0), (1, .iconst 0, 1, 0, 0), (2, .aload_n 0, 1, 0, 0), (3, .getfield 344, 3, 12, 37), (6, .iconst 1, 1, 0, 0), (7, .isub, 1, 0, 0), (8, .invokestatic 362, 3, 0, 0), (11, .ireturn, 1, 0, 0)]
set_option maxRecDepth 100000 in
theorem kX12_isHouse : mTok cX12_isHouse RX12 2 false tX12_isHouse := mTok_of (by decide +kernel) ⟨trivial, trivial, trivial, ⟨_, rfl, lfRX12_344⟩, trivial, trivial, (fun z => by cases z), trivial, trivial⟩
def tX12_load : List mI := [(0, .iconst 0, 1, 0, 0), (1, .istore_n 1, 1, 0, 0), (2, .iload_n 1, 1, 0, 0), (3, .iconst 5, 1, 0, 0), (4, .if_icmp .ge 50, 3, 0, 0), (7, .aload_n 0, 1, 0, 0), (8, .getfield 79, 3, 12, 40), (11, .iload_n 1, 1, 0, 0), (12, .aload_n 0, 1, 0, 0), (13, .getfield 76, 3, 12, 39), (16, .iload_n 1, 1, 0, 0), (17, .iaload, 1, 0, 0), (18, .iastore, 1, 0, 0), (19, .aload_n 0, 1, 0, 0), (20, .getfield 82, 3, 12, 41), (23, .iload_n 1, 1, 0, 0), (24, .aload_n 0, 1, 0, 0), (25, .getfield 76, 3, 12, 39), (28, .iconst 5, 1, 0, 0), (29, .iload_n 1, 1, 0, 0), (30, .iadd, 1, 0, 0), (31, .iaload, 1, 0, 0), (32, .iastore, 1, 0, 0), (33, .aload_n 0, 1, 0, 0), (34, .getfield 85, 3, 12, 42), (37, .iload_n 1, 1, 0, 0), (38, .aload_n 0, 1, 0, 0), (39, .getfield 76, 3, 12, 39), (42, .bipush 10, 2, 0, 0), (44, .iload_n 1, 1, 0, 0), (45, .iadd, 1, 0, 0), (46, .iaload, 1, 0, 0), (47, .iastore, 1, 0, 0), (48, .iinc 1 1, 3, 0, 0), (51, .goto (-49), 3, 0, 0), (54, .aload_n 0, 1, 0, 0), (55, .aload_n 0, 1, 0, 0), (56, .getfield 76, 3, 12, 39), (59, .bipush 15, 2, 0, 0), (61, .iaload, 1, 0, 0), (62, .putfield 366, 3, 12, 43), (65, .aload_n 0, 1, 0, 0), (66, .aload_n 0, 1, 0, 0), (67, .getfield 76, 3, 12, 39), (70, .bipush 16, 2, 0, 0), (72, .iaload, 1, 0, 0), (73, .putfield 369, 3, 12, 44), (76, .return_, 1, 0, 0)]
set_option maxRecDepth 100000 in
theorem kX12_load : mTok cX12_load RX12 2 false tX12_load := mTok_of (by decide +kernel) ⟨trivial, trivial, trivial, trivial, trivial, trivial, ⟨_, rfl, lfRX12_79⟩, trivial, trivial, ⟨_, rfl, lfRX12_76⟩, trivial, trivial, trivial, trivial, ⟨_, rfl, lfRX12_82⟩, trivial, trivial, ⟨_, rfl, lfRX12_76⟩, trivial, trivial, trivial, trivial, trivial, trivial, ⟨_, rfl, lfRX12_85⟩, trivial, trivial, ⟨_, rfl, lfRX12_76⟩, trivial, trivial, trivial, trivial, trivial, trivial, trivial, trivial, trivial, ⟨_, rfl, lfRX12_76⟩, trivial, trivial, ⟨_, rfl, lfRX12_366, (fun z => by cases z)⟩, trivial, trivial, ⟨_, rfl, lfRX12_76⟩, trivial, trivial, ⟨_, rfl, lfRX12_369, (fun z => by cases z)⟩, trivial, trivial⟩
def tX12_keep : List mI := [(0, .iconst 0, 1, 0, 0), (1, .istore_n 1, 1, 0, 0), (2, .iload_n 1, 1, 0, 0), (3, .iconst 5, 1, 0, 0), (4, .if_icmp .ge 50, 3, 0, 0), (7, .aload_n 0, 1, 0, 0), (8, .getfield 76, 3, 12, 39), (11, .iload_n 1, 1, 0, 0), (12, .aload_n 0, 1, 0, 0), (13, .getfield 79, 3, 12, 40), (16, .iload_n 1, 1, 0, 0), (17, .iaload, 1, 0, 0), (18, .iastore, 1, 0, 0), (19, .aload_n 0, 1, 0, 0), (20, .getfield 76, 3, 12, 39), (23, .iconst 5, 1, 0, 0), (24, .iload_n 1, 1, 0, 0), (25, .iadd, 1, 0, 0), (26, .aload_n 0, 1, 0, 0), (27, .getfield 82, 3, 12, 41), (30, .iload_n 1, 1, 0, 0), (31, .iaload, 1, 0, 0), (32, .iastore, 1, 0, 0), (33, .aload_n 0, 1, 0, 0), (34, .getfield 76, 3, 12, 39), (37, .bipush 10, 2, 0, 0), (39, .iload_n 1, 1, 0, 0), (40, .iadd, 1, 0, 0), (41, .aload_n 0, 1, 0, 0), (42, .getfield 85, 3, 12, 42), (45, .iload_n 1, 1, 0, 0), (46, .iaload, 1, 0, 0), (47, .iastore, 1, 0, 0), (48, .iinc 1 1, 3, 0, 0), (51, .goto (-49), 3, 0, 0), (54, .aload_n 0, 1, 0, 0), (55, .getfield 76, 3, 12, 39), (58, .bipush 15, 2, 0, 0), (60, .aload_n 0, 1, 0, 0), (61, .getfield 366, 3, 12, 43), (64, .iastore, 1, 0, 0), (65, .aload_n 0, 1, 0, 0), (66, .getfield 76, 3, 12, 39), (69, .bipush 16, 2, 0, 0), (71, .aload_n 0, 1, 0, 0), (72, .getfield 369, 3, 12, 44), (75, .iastore, 1, 0, 0), (76, .return_, 1, 0, 0)]
set_option maxRecDepth 100000 in
theorem kX12_keep : mTok cX12_keep RX12 2 false tX12_keep := mTok_of (by decide +kernel) ⟨trivial, trivial, trivial, trivial, trivial, trivial, ⟨_, rfl, lfRX12_76⟩, trivial, trivial, ⟨_, rfl, lfRX12_79⟩, trivial, trivial, trivial, trivial, ⟨_, rfl, lfRX12_76⟩, trivial, trivial, trivial, trivial, ⟨_, rfl, lfRX12_82⟩, trivial, trivial, trivial, trivial, ⟨_, rfl, lfRX12_76⟩, trivial, trivial, trivial, trivial, ⟨_, rfl, lfRX12_85⟩, trivial, trivial, trivial, trivial, trivial, trivial, ⟨_, rfl, lfRX12_76⟩, trivial, trivial, ⟨_, rfl, lfRX12_366⟩, trivial, trivial, ⟨_, rfl, lfRX12_76⟩, trivial, trivial, ⟨_, rfl, lfRX12_369⟩, trivial, trivial, trivial⟩
def tX12_stonesOf : List mI := [(0, .aload_n 0, 1, 0, 0), (1, .aload_n 0, 1, 0, 0), (2, .getfield 79, 3, 12, 40), (5, .iload_n 1, 1, 0, 0), (6, .iaload, 1, 0, 0), (7, .aload_n 0, 1, 0, 0), (8, .getfield 82, 3, 12, 41), (11, .iload_n 1, 1, 0, 0), (12, .iaload, 1, 0, 0), (13, .aload_n 0, 1, 0, 0), (14, .getfield 70, 3, 12, 33), (17, .iload_n 1, 1, 0, 0), (18, .iaload, 1, 0, 0), (19, .aload_n 0, 1, 0, 0), (20, .getfield 73, 3, 12, 34), (23, .iload_n 1, 1, 0, 0), (24, .iaload, 1, 0, 0), (25, .iconst 0, 1, 0, 0), (26, .aload_n 0, 1, 0, 0), (27, .getfield 366, 3, 12, 43), (30, .invokevirtual 372, 3, 0, 0), (33, .aload_n 0, 1, 0, 0), (34, .getfield 49, 3, 12, 20), (37, .iconst 0, 1, 0, 0), (38, .baload, 1, 0, 0), (39, .ifCond .eq 11, 3, 0, 0), (42, .aload_n 0, 1, 0, 0), (43, .iconst 0, 1, 0, 0), (44, .invokevirtual 376, 3, 0, 0), (47, .goto 23, 3, 0, 0), (50, .aload_n 0, 1, 0, 0), (51, .getfield 79, 3, 12, 40), (54, .iload_n 1, 1, 0, 0), (55, .iaload, 1, 0, 0), (56, .aload_n 0, 1, 0, 0), (57, .getfield 82, 3, 12, 41), (60, .iload_n 1, 1, 0, 0), (61, .iaload, 1, 0, 0), (62, .isub, 1, 0, 0), (63, .aload_n 0, 1, 0, 0), (64, .getfield 73, 3, 12, 34), (67, .iload_n 1, 1, 0, 0), (68, .iaload, 1, 0, 0), (69, .iadd, 1, 0, 0), (70, .iconst 0, 1, 0, 0), (71, .bipush 99, 2, 0, 0), (73, .invokestatic 379, 3, 0, 0), (76, .ireturn, 1, 0, 0)]
set_option maxRecDepth 100000 in
theorem kX12_stonesOf : mTok cX12_stonesOf RX12 2 false tX12_stonesOf := mTok_of (by decide +kernel) ⟨trivial, trivial, ⟨_, rfl, lfRX12_79⟩, trivial, trivial, trivial, ⟨_, rfl, lfRX12_82⟩, trivial, trivial, trivial, ⟨_, rfl, lfRX12_70⟩, trivial, trivial, trivial, ⟨_, rfl, lfRX12_73⟩, trivial, trivial, trivial, trivial, ⟨_, rfl, lfRX12_366⟩, trivial, trivial, ⟨_, rfl, lfRX12_49⟩, trivial, trivial, trivial, trivial, trivial, trivial, trivial, trivial, ⟨_, rfl, lfRX12_79⟩, trivial, trivial, trivial, ⟨_, rfl, lfRX12_82⟩, trivial, trivial, trivial, trivial, ⟨_, rfl, lfRX12_73⟩, trivial, trivial, trivial, trivial, trivial, (fun z => by cases z), trivial, trivial⟩
def tX12_taxOf : List mI := [(0, .aload_n 0, 1, 0, 0), (1, .iconst 0, 1, 0, 0), (2, .iconst 0, 1, 0, 0), (3, .aload_n 0, 1, 0, 0), (4, .getfield 70, 3, 12, 33), (7, .iload_n 1, 1, 0, 0), (8, .iaload, 1, 0, 0), (9, .iconst 0, 1, 0, 0), (10, .iload_n 2, 1, 0, 0), (11, .aload_n 0, 1, 0, 0), (12, .getfield 366, 3, 12, 43), (15, .invokevirtual 372, 3, 0, 0), (18, .aload_n 0, 1, 0, 0), (19, .getfield 49, 3, 12, 20), (22, .iconst 1, 1, 0, 0), (23, .baload, 1, 0, 0), (24, .ifCond .eq 11, 3, 0, 0), (27, .aload_n 0, 1, 0, 0), (28, .iconst 1, 1, 0, 0), (29, .invokevirtual 376, 3, 0, 0), (32, .goto 4, 3, 0, 0), (35, .iload_n 2, 1, 0, 0), (36, .iconst 0, 1, 0, 0), (37, .sipush 999, 3, 0, 0), (40, .invokestatic 379, 3, 0, 0), (43, .ireturn, 1, 0, 0)]
set_option maxRecDepth 100000 in
theorem kX12_taxOf : mTok cX12_taxOf RX12 3 false tX12_taxOf := mTok_of (by decide +kernel) ⟨trivial, trivial, trivial, trivial, ⟨_, rfl, lfRX12_70⟩, trivial, trivial, trivial, trivial, trivial, ⟨_, rfl, lfRX12_366⟩, trivial, trivial, ⟨_, rfl, lfRX12_49⟩, trivial, trivial, trivial, trivial, trivial, trivial, trivial, trivial, trivial, trivial, (fun z => by cases z), trivial, trivial⟩
def tX12_shows : List mI := [(0, .aload_n 0, 1, 0, 0), (1, .iload_n 1, 1, 0, 0), (2, .invokevirtual 382, 3, 0, 0), (5, .aload_n 0, 1, 0, 0), (6, .getfield 70, 3, 12, 33), (9, .iload_n 1, 1, 0, 0), (10, .iaload, 1, 0, 0), (11, .if_icmp .ge 7, 3, 0, 0), (14, .iconst 1, 1, 0, 0), (15, .goto 4, 3, 0, 0), (18, .iconst 0, 1, 0, 0), (19, .ireturn, 1, 0, 0)]
set_option maxRecDepth 100000 in
theorem kX12_shows : mTok cX12_shows RX12 2 false tX12_shows := mTok_of (by decide +kernel) ⟨trivial, trivial, trivial, trivial, ⟨_, rfl, lfRX12_70⟩, trivial, trivial, trivial, trivial, trivial, trivial, trivial, trivial⟩
def tX12_notMoreHidden : List mI := [(0, .aload_n 0, 1, 0, 0), (1, .getfield 82, 3, 12, 41), (4, .iload_n 1, 1, 0, 0), (5, .aload_n 0, 1, 0, 0), (6, .getfield 82, 3, 12, 41), (9, .iload_n 1, 1, 0, 0), (10, .iaload, 1, 0, 0), (11, .aload_n 0, 1, 0, 0), (12, .getfield 79, 3, 12, 40), (15, .iload_n 1, 1, 0, 0), (16, .iaload, 1, 0, 0), (17, .if_icmp .le 12, 3, 0, 0), (20, .aload_n 0, 1, 0, 0), (21, .getfield 79, 3, 12, 40), (24, .iload_n 1, 1, 0, 0), (25, .iaload, 1, 0, 0), (26, .goto 9, 3, 0, 0), (29, .aload_n 0, 1, 0, 0), (30, .getfield 82, 3, 12, 41), (33, .iload_n 1, 1, 0, 0), (34, .iaload, 1, 0, 0), (35, .iastore, 1, 0, 0), (36, .return_, 1, 0, 0)]
set_option maxRecDepth 100000 in
theorem kX12_notMoreHidden : mTok cX12_notMoreHidden RX12 2 false tX12_notMoreHidden := mTok_of (by decide +kernel) ⟨trivial, ⟨_, rfl, lfRX12_82⟩, trivial, trivial, ⟨_, rfl, lfRX12_82⟩, trivial, trivial, trivial, ⟨_, rfl, lfRX12_79⟩, trivial, trivial, trivial, trivial, ⟨_, rfl, lfRX12_79⟩, trivial, trivial, trivial, trivial, ⟨_, rfl, lfRX12_82⟩, trivial, trivial, trivial, trivial, trivial⟩
def tX12_goSummer : List mI := [(0, .iconst 0, 1, 0, 0), (1, .istore_n 1, 1, 0, 0), (2, .iload_n 1, 1, 0, 0), (3, .aload_n 0, 1, 0, 0), (4, .getfield 344, 3, 12, 37), (7, .if_icmp .ge 20, 3, 0, 0), (10, .aload_n 0, 1, 0, 0), (11, .getfield 85, 3, 12, 42), (14, .iload_n 1, 1, 0, 0), (15, .aload_n 0, 1, 0, 0), (16, .iload_n 1, 1, 0, 0), (17, .invokevirtual 382, 3, 0, 0), (20, .iastore, 1, 0, 0), (21, .iinc 1 1, 3, 0, 0), (24, .goto (-22), 3, 0, 0), (27, .aload_n 0, 1, 0, 0), (28, .aload_n 0, 1, 0, 0), (29, .getfield 369, 3, 12, 44), (32, .sipush 137, 3, 0, 0), (35, .imul, 1, 0, 0), (36, .bipush 71, 2, 0, 0), (38, .iadd, 1, 0, 0), (39, .sipush 1000, 3, 0, 0), (42, .irem, 1, 0, 0), (43, .putfield 369, 3, 12, 44), (46, .aload_n 0, 1, 0, 0), (47, .getfield 344, 3, 12, 37), (50, .ifCond .le 52, 3, 0, 0), (53, .aload_n 0, 1, 0, 0), (54, .getfield 369, 3, 12, 44), (57, .aload_n 0, 1, 0, 0), (58, .getfield 344, 3, 12, 37), (61, .irem, 1, 0, 0), (62, .istore_n 1, 1, 0, 0), (63, .aload_n 0, 1, 0, 0), (64, .getfield 369, 3, 12, 44), (67, .bipush 100, 2, 0, 0), (69, .idiv, 1, 0, 0), (70, .iconst 3, 1, 0, 0), (71, .irem, 1, 0, 0), (72, .istore_n 2, 1, 0, 0), (73, .aload_n 0, 1, 0, 0), (74, .getfield 85, 3, 12, 42), (77, .iload_n 1, 1, 0, 0), (78, .dup2, 1, 0, 0), (79, .iaload, 1, 0, 0), (80, .iload_n 2, 1, 0, 0), (81, .aload_n 0, 1, 0, 0), (82, .getfield 85, 3, 12, 42), (85, .iload_n 1, 1, 0, 0), (86, .iaload, 1, 0, 0), (87, .if_icmp .le 12, 3, 0, 0), (90, .aload_n 0, 1, 0, 0), (91, .getfield 85, 3, 12, 42), (94, .iload_n 1, 1, 0, 0), (95, .iaload, 1, 0, 0), (96, .goto 4, 3, 0, 0), (99, .iload_n 2, 1, 0, 0), (100, .isub, 1, 0, 0), (101, .iastore, 1, 0, 0), (102, .iconst 0, 1, 0, 0), (103, .istore_n 1, 1, 0, 0), (104, .iload_n 1, 1, 0, 0), (105, .aload_n 0, 1, 0, 0), (106, .getfield 344, 3, 12, 37), (109, .if_icmp .ge 91, 3, 0, 0), (112, .aload_n 0, 1, 0, 0), (113, .getfield 49, 3, 12, 20), (116, .iconst 2, 1, 0, 0), (117, .baload, 1, 0, 0), (118, .ifCond .eq 82, 3, 0, 0), (121, .aload_n 0, 1, 0, 0), (122, .aload_n 0, 1, 0, 0), (123, .getfield 79, 3, 12, 40), (126, .iload_n 1, 1, 0, 0), (127, .iaload, 1, 0, 0), (128, .aload_n 0, 1, 0, 0), (129, .getfield 82, 3, 12, 41), (132, .iload_n 1, 1, 0, 0), (133, .iaload, 1, 0, 0), (134, .aload_n 0, 1, 0, 0), (135, .getfield 70, 3, 12, 33), (138, .iload_n 1, 1, 0, 0), (139, .iaload, 1, 0, 0), (140, .aload_n 0, 1, 0, 0), (141, .getfield 73, 3, 12, 34), (144, .iload_n 1, 1, 0, 0), (145, .iaload, 1, 0, 0), (146, .aload_n 0, 1, 0, 0), (147, .getfield 85, 3, 12, 42), (150, .iload_n 1, 1, 0, 0), (151, .iaload, 1, 0, 0), (152, .aload_n 0, 1, 0, 0), (153, .getfield 366, 3, 12, 43), (156, .invokevirtual 372, 3, 0, 0), (159, .aload_n 0, 1, 0, 0), (160, .getfield 79, 3, 12, 40), (163, .iload_n 1, 1, 0, 0), (164, .aload_n 0, 1, 0, 0), (165, .getfield 79, 3, 12, 40), (168, .iload_n 1, 1, 0, 0), (169, .iaload, 1, 0, 0), (170, .aload_n 0, 1, 0, 0), (171, .iconst 2, 1, 0, 0), (172, .invokevirtual 376, 3, 0, 0), (175, .bipush (-3), 2, 0, 0), (177, .iconst 3, 1, 0, 0), (178, .invokestatic 379, 3, 0, 0), (181, .iadd, 1, 0, 0), (182, .iconst 0, 1, 0, 0), (183, .bipush 7, 2, 0, 0), (185, .invokestatic 379, 3, 0, 0), (188, .iastore, 1, 0, 0), (189, .aload_n 0, 1, 0, 0), (190, .iload_n 1, 1, 0, 0), (191, .invokevirtual 385, 3, 0, 0), (194, .iinc 1 1, 3, 0, 0), (197, .goto (-93), 3, 0, 0), (200, .aload_n 0, 1, 0, 0), (201, .dup, 1, 0, 0), (202, .getfield 366, 3, 12, 43), (205, .iconst 1, 1, 0, 0), (206, .iadd, 1, 0, 0), (207, .putfield 366, 3, 12, 43), (210, .return_, 1, 0, 0)]
set_option maxRecDepth 100000 in
theorem kX12_goSummer : mTok cX12_goSummer RX12 3 false tX12_goSummer := mTok_of (by decide +kernel) ⟨trivial, trivial, trivial, trivial, ⟨_, rfl, lfRX12_344⟩, trivial, trivial, ⟨_, rfl, lfRX12_85⟩, trivial, trivial, trivial, trivial, trivial, trivial, trivial, trivial, trivial, ⟨_, rfl, lfRX12_369⟩, trivial, trivial, trivial, trivial, trivial, trivial, ⟨_, rfl, lfRX12_369, (fun z => by cases z)⟩, trivial, ⟨_, rfl, lfRX12_344⟩, trivial, trivial, ⟨_, rfl, lfRX12_369⟩, trivial, ⟨_, rfl, lfRX12_344⟩, trivial, trivial, trivial, ⟨_, rfl, lfRX12_369⟩, trivial, trivial, trivial, trivial, trivial, trivial, ⟨_, rfl, lfRX12_85⟩, trivial, trivial, trivial, trivial, trivial, ⟨_, rfl, lfRX12_85⟩, trivial, trivial, trivial, trivial, ⟨_, rfl, lfRX12_85⟩, trivial, trivial, trivial, trivial, trivial, trivial, trivial, trivial, trivial, trivial, ⟨_, rfl, lfRX12_344⟩, trivial, trivial, ⟨_, rfl, lfRX12_49⟩, trivial, trivial, trivial, trivial, trivial, ⟨_, rfl, lfRX12_79⟩, trivial, trivial, trivial, ⟨_, rfl, lfRX12_82⟩, trivial, trivial, trivial, ⟨_, rfl, lfRX12_70⟩, trivial, trivial, trivial, ⟨_, rfl, lfRX12_73⟩, trivial, trivial, trivial, ⟨_, rfl, lfRX12_85⟩, trivial, trivial, trivial, ⟨_, rfl, lfRX12_366⟩, trivial, trivial, ⟨_, rfl, lfRX12_79⟩, trivial, trivial, ⟨_, rfl, lfRX12_79⟩, trivial, trivial, trivial, trivial, trivial, trivial, trivial, (fun z => by cases z), trivial, trivial, trivial, (fun z => by cases z), trivial, trivial, trivial, trivial, trivial, trivial, trivial, trivial, ⟨_, rfl, lfRX12_366⟩, trivial, trivial, ⟨_, rfl, lfRX12_366, (fun z => by cases z)⟩, trivial, trivial⟩
def tX12_allBowls : List mI := [(0, .iconst 0, 1, 0, 0), (1, .istore_n 1, 1, 0, 0), (2, .iconst 0, 1, 0, 0), (3, .istore_n 2, 1, 0, 0), (4, .iload_n 2, 1, 0, 0), (5, .aload_n 0, 1, 0, 0), (6, .getfield 344, 3, 12, 37), (9, .if_icmp .ge 18, 3, 0, 0), (12, .iload_n 1, 1, 0, 0), (13, .aload_n 0, 1, 0, 0), (14, .getfield 85, 3, 12, 42), (17, .iload_n 2, 1, 0, 0), (18, .iaload, 1, 0, 0), (19, .iadd, 1, 0, 0), (20, .istore_n 1, 1, 0, 0), (21, .iinc 2 1, 3, 0, 0), (24, .goto (-20), 3, 0, 0), (27, .iload_n 1, 1, 0, 0), (28, .ireturn, 1, 0, 0)]
set_option maxRecDepth 100000 in
theorem kX12_allBowls : mTok cX12_allBowls RX12 3 false tX12_allBowls := mTok_of (by decide +kernel) ⟨trivial, trivial, trivial, trivial, trivial, trivial, ⟨_, rfl, lfRX12_344⟩, trivial, trivial, trivial, ⟨_, rfl, lfRX12_85⟩, trivial, trivial, trivial, trivial, trivial, trivial, trivial, trivial, trivial⟩
def tX12_house : List mI := [(0, .aload_n 0, 1, 0, 0), (1, .iload_n 1, 1, 0, 0), (2, .invokevirtual 388, 3, 0, 0), (5, .ifCond .ne 5, 3, 0, 0), (8, .iconst (-1), 1, 0, 0), (9, .ireturn, 1, 0, 0), (10, .aload_n 0, 1, 0, 0), (11, .invokevirtual 391, 3, 0, 0), (14, .iload_n 2, 1, 0, 0), (15, .tableswitch 133 0 9 #[53, 60, 67, 74, 81, 88, 95, 101, 110, 122], 53, 0, 0), (68, .aload_n 0, 1, 0, 0), (69, .getfield 67, 3, 12, 32), (72, .iload_n 1, 1, 0, 0), (73, .iaload, 1, 0, 0), (74, .ireturn, 1, 0, 0), (75, .aload_n 0, 1, 0, 0), (76, .getfield 79, 3, 12, 40), (79, .iload_n 1, 1, 0, 0), (80, .iaload, 1, 0, 0), (81, .ireturn, 1, 0, 0), (82, .aload_n 0, 1, 0, 0), (83, .getfield 82, 3, 12, 41), (86, .iload_n 1, 1, 0, 0), (87, .iaload, 1, 0, 0), (88, .ireturn, 1, 0, 0), (89, .aload_n 0, 1, 0, 0), (90, .getfield 85, 3, 12, 42), (93, .iload_n 1, 1, 0, 0), (94, .iaload, 1, 0, 0), (95, .ireturn, 1, 0, 0), (96, .aload_n 0, 1, 0, 0), (97, .getfield 70, 3, 12, 33), (100, .iload_n 1, 1, 0, 0), (101, .iaload, 1, 0, 0), (102, .ireturn, 1, 0, 0), (103, .aload_n 0, 1, 0, 0), (104, .getfield 73, 3, 12, 34), (107, .iload_n 1, 1, 0, 0), (108, .iaload, 1, 0, 0), (109, .ireturn, 1, 0, 0), (110, .aload_n 0, 1, 0, 0), (111, .iload_n 1, 1, 0, 0), (112, .invokevirtual 382, 3, 0, 0), (115, .ireturn, 1, 0, 0), (116, .aload_n 0, 1, 0, 0), (117, .iload_n 1, 1, 0, 0), (118, .invokevirtual 394, 3, 0, 0), (121, .invokestatic 307, 3, 0, 0), (124, .ireturn, 1, 0, 0), (125, .aload_n 0, 1, 0, 0), (126, .iload_n 1, 1, 0, 0), (127, .aload_n 0, 1, 0, 0), (128, .getfield 85, 3, 12, 42), (131, .iload_n 1, 1, 0, 0), (132, .iaload, 1, 0, 0), (133, .invokevirtual 397, 3, 0, 0), (136, .ireturn, 1, 0, 0), (137, .aload_n 0, 1, 0, 0), (138, .iload_n 1, 1, 0, 0), (139, .aload_n 0, 1, 0, 0), (140, .iload_n 1, 1, 0, 0), (141, .invokevirtual 382, 3, 0, 0), (144, .invokevirtual 397, 3, 0, 0), (147, .ireturn, 1, 0, 0), (148, .iconst (-1), 1, 0, 0), (149, .ireturn, 1, 0, 0)]
set_option maxRecDepth 100000 in
theorem kX12_house : mTok cX12_house RX12 3 false tX12_house := mTok_of (by decide +kernel) ⟨trivial, trivial, trivial, trivial, trivial, trivial, trivial, trivial, trivial, trivial, trivial, ⟨_, rfl, lfRX12_67⟩, trivial, trivial, trivial, trivial, ⟨_, rfl, lfRX12_79⟩, trivial, trivial, trivial, trivial, ⟨_, rfl, lfRX12_82⟩, trivial, trivial, trivial, trivial, ⟨_, rfl, lfRX12_85⟩, trivial, trivial, trivial, trivial, ⟨_, rfl, lfRX12_70⟩, trivial, trivial, trivial, trivial, ⟨_, rfl, lfRX12_73⟩, trivial, trivial, trivial, trivial, trivial, trivial, trivial, trivial, trivial, trivial, (fun z => by cases z), trivial, trivial, trivial, trivial, ⟨_, rfl, lfRX12_85⟩, trivial, trivial, trivial, trivial, trivial, trivial, trivial, trivial, trivial, trivial, trivial, trivial, trivial, trivial⟩
def tX12_partOf : List mI := [(0, .iload_n 2, 1, 0, 0), (1, .tableswitch 74 0 4 #[35, 42, 49, 56, 62], 35, 0, 0), (36, .aload_n 0, 1, 0, 0), (37, .getfield 79, 3, 12, 40), (40, .iload_n 1, 1, 0, 0), (41, .iaload, 1, 0, 0), (42, .ireturn, 1, 0, 0), (43, .aload_n 0, 1, 0, 0), (44, .getfield 82, 3, 12, 41), (47, .iload_n 1, 1, 0, 0), (48, .iaload, 1, 0, 0), (49, .ireturn, 1, 0, 0), (50, .aload_n 0, 1, 0, 0), (51, .getfield 85, 3, 12, 42), (54, .iload_n 1, 1, 0, 0), (55, .iaload, 1, 0, 0), (56, .ireturn, 1, 0, 0), (57, .aload_n 0, 1, 0, 0), (58, .iload_n 1, 1, 0, 0), (59, .invokevirtual 382, 3, 0, 0), (62, .ireturn, 1, 0, 0), (63, .aload_n 0, 1, 0, 0), (64, .iload_n 1, 1, 0, 0), (65, .aload_n 0, 1, 0, 0), (66, .getfield 85, 3, 12, 42), (69, .iload_n 1, 1, 0, 0), (70, .iaload, 1, 0, 0), (71, .invokevirtual 397, 3, 0, 0), (74, .ireturn, 1, 0, 0), (75, .aload_n 0, 1, 0, 0), (76, .iload_n 1, 1, 0, 0), (77, .aload_n 0, 1, 0, 0), (78, .iload_n 1, 1, 0, 0), (79, .invokevirtual 382, 3, 0, 0), (82, .invokevirtual 397, 3, 0, 0), (85, .ireturn, 1, 0, 0)]
set_option maxRecDepth 100000 in
theorem kX12_partOf : mTok cX12_partOf RX12 3 false tX12_partOf := mTok_of (by decide +kernel) ⟨trivial, trivial, trivial, ⟨_, rfl, lfRX12_79⟩, trivial, trivial, trivial, trivial, ⟨_, rfl, lfRX12_82⟩, trivial, trivial, trivial, trivial, ⟨_, rfl, lfRX12_85⟩, trivial, trivial, trivial, trivial, trivial, trivial, trivial, trivial, trivial, trivial, ⟨_, rfl, lfRX12_85⟩, trivial, trivial, trivial, trivial, trivial, trivial, trivial, trivial, trivial, trivial, trivial, trivial⟩
def tX12_sum : List mI := [(0, .iload_n 1, 1, 0, 0), (1, .iconst 0, 1, 0, 0), (2, .iconst 5, 1, 0, 0), (3, .invokestatic 362, 3, 0, 0), (6, .ifCond .ne 5, 3, 0, 0), (9, .iconst (-1), 1, 0, 0), (10, .ireturn, 1, 0, 0), (11, .aload_n 0, 1, 0, 0), (12, .invokevirtual 391, 3, 0, 0), (15, .iconst 0, 1, 0, 0), (16, .istore_n 2, 1, 0, 0), (17, .iconst 0, 1, 0, 0), (18, .istore_n 3, 1, 0, 0), (19, .iload_n 3, 1, 0, 0), (20, .aload_n 0, 1, 0, 0), (21, .getfield 344, 3, 12, 37), (24, .if_icmp .ge 18, 3, 0, 0), (27, .iload_n 2, 1, 0, 0), (28, .aload_n 0, 1, 0, 0), (29, .iload_n 3, 1, 0, 0), (30, .iload_n 1, 1, 0, 0), (31, .invokevirtual 400, 3, 0, 0), (34, .iadd, 1, 0, 0), (35, .istore_n 2, 1, 0, 0), (36, .iinc 3 1, 3, 0, 0), (39, .goto (-20), 3, 0, 0), (42, .iload_n 2, 1, 0, 0), (43, .ireturn, 1, 0, 0)]
set_option maxRecDepth 100000 in
theorem kX12_sum : mTok cX12_sum RX12 4 false tX12_sum := mTok_of (by decide +kernel) ⟨trivial, trivial, trivial, (fun z => by cases z), trivial, trivial, trivial, trivial, trivial, trivial, trivial, trivial, trivial, trivial, trivial, ⟨_, rfl, lfRX12_344⟩, trivial, trivial, trivial, trivial, trivial, trivial, trivial, trivial, trivial, trivial, trivial, trivial, trivial⟩
def tX12_act : List mI := [(0, .aload_n 0, 1, 0, 0), (1, .getfield 350, 3, 12, 46), (4, .bipush 40, 2, 0, 0), (6, .if_icmp .ne 43, 3, 0, 0), (9, .iconst 0, 1, 0, 0), (10, .istore_n 1, 1, 0, 0), (11, .iload_n 1, 1, 0, 0), (12, .sipush 702, 3, 0, 0), (15, .if_icmp .ge 24, 3, 0, 0), (18, .aload_n 0, 1, 0, 0), (19, .getfield 88, 3, 12, 45), (22, .iload_n 1, 1, 0, 0), (23, .aload_n 0, 1, 0, 0), (24, .getfield 88, 3, 12, 45), (27, .bipush 18, 2, 0, 0), (29, .iload_n 1, 1, 0, 0), (30, .iadd, 1, 0, 0), (31, .iaload, 1, 0, 0), (32, .iastore, 1, 0, 0), (33, .iinc 1 1, 3, 0, 0), (36, .goto (-25), 3, 0, 0), (39, .aload_n 0, 1, 0, 0), (40, .dup, 1, 0, 0), (41, .getfield 350, 3, 12, 46), (44, .iconst 1, 1, 0, 0), (45, .isub, 1, 0, 0), (46, .putfield 350, 3, 12, 46), (49, .iconst 0, 1, 0, 0), (50, .istore_n 1, 1, 0, 0), (51, .iload_n 1, 1, 0, 0), (52, .bipush 17, 2, 0, 0), (54, .if_icmp .ge 29, 3, 0, 0), (57, .aload_n 0, 1, 0, 0), (58, .getfield 88, 3, 12, 45), (61, .bipush 18, 2, 0, 0), (63, .aload_n 0, 1, 0, 0), (64, .getfield 350, 3, 12, 46), (67, .imul, 1, 0, 0), (68, .iload_n 1, 1, 0, 0), (69, .iadd, 1, 0, 0), (70, .aload_n 0, 1, 0, 0), (71, .getfield 76, 3, 12, 39), (74, .iload_n 1, 1, 0, 0), (75, .iaload, 1, 0, 0), (76, .iastore, 1, 0, 0), (77, .iinc 1 1, 3, 0, 0), (80, .goto (-29), 3, 0, 0), (83, .aload_n 0, 1, 0, 0), (84, .dup, 1, 0, 0), (85, .getfield 350, 3, 12, 46), (88, .iconst 1, 1, 0, 0), (89, .iadd, 1, 0, 0), (90, .putfield 350, 3, 12, 46), (93, .aload_n 0, 1, 0, 0), (94, .iconst 0, 1, 0, 0), (95, .putfield 353, 3, 12, 47), (98, .return_, 1, 0, 0)]
set_option maxRecDepth 100000 in
theorem kX12_act : mTok cX12_act RX12 2 false tX12_act := mTok_of (by decide +kernel) ⟨trivial, ⟨_, rfl, lfRX12_350⟩, trivial, trivial, trivial, trivial, trivial, trivial, trivial, trivial, ⟨_, rfl, lfRX12_88⟩, trivial, trivial, ⟨_, rfl, lfRX12_88⟩, trivial, trivial, trivial, trivial, trivial, trivial, trivial, trivial, trivial, ⟨_, rfl, lfRX12_350⟩, trivial, trivial, ⟨_, rfl, lfRX12_350, (fun z => by cases z)⟩, trivial, trivial, trivial, trivial, trivial, trivial, ⟨_, rfl, lfRX12_88⟩, trivial, trivial, ⟨_, rfl, lfRX12_350⟩, trivial, trivial, trivial, trivial, ⟨_, rfl, lfRX12_76⟩, trivial, trivial, trivial, trivial, trivial, trivial, trivial, ⟨_, rfl, lfRX12_350⟩, trivial, trivial, ⟨_, rfl, lfRX12_350, (fun z => by cases z)⟩, trivial, trivial, ⟨_, rfl, lfRX12_353, (fun z => by cases z)⟩, trivial, trivial⟩
def tX12_exchange : List mI := [(0, .iconst 0, 1, 0, 0), (1, .istore_n 2, 1, 0, 0), (2, .iload_n 2, 1, 0, 0), (3, .bipush 17, 2, 0, 0), (5, .if_icmp .ge 39, 3, 0, 0), (8, .aload_n 0, 1, 0, 0), (9, .getfield 88, 3, 12, 45), (12, .iload_n 1, 1, 0, 0), (13, .iload_n 2, 1, 0, 0), (14, .iadd, 1, 0, 0), (15, .iaload, 1, 0, 0), (16, .istore_n 3, 1, 0, 0), (17, .aload_n 0, 1, 0, 0), (18, .getfield 88, 3, 12, 45), (21, .iload_n 1, 1, 0, 0), (22, .iload_n 2, 1, 0, 0), (23, .iadd, 1, 0, 0), (24, .aload_n 0, 1, 0, 0), (25, .getfield 76, 3, 12, 39), (28, .iload_n 2, 1, 0, 0), (29, .iaload, 1, 0, 0), (30, .iastore, 1, 0, 0), (31, .aload_n 0, 1, 0, 0), (32, .getfield 76, 3, 12, 39), (35, .iload_n 2, 1, 0, 0), (36, .iload_n 3, 1, 0, 0), (37, .iastore, 1, 0, 0), (38, .iinc 2 1, 3, 0, 0), (41, .goto (-39), 3, 0, 0), (44, .return_, 1, 0, 0)]
set_option maxRecDepth 100000 in
theorem kX12_exchange : mTok cX12_exchange RX12 4 false tX12_exchange := mTok_of (by decide +kernel) ⟨trivial, trivial, trivial, trivial, trivial, trivial, ⟨_, rfl, lfRX12_88⟩, trivial, trivial, trivial, trivial, trivial, trivial, ⟨_, rfl, lfRX12_88⟩, trivial, trivial, trivial, trivial, ⟨_, rfl, lfRX12_76⟩, trivial, trivial, trivial, trivial, ⟨_, rfl, lfRX12_76⟩, trivial, trivial, trivial, trivial, trivial, trivial, trivial⟩
def tX12_comes : List mI := [(0, .aload_n 0, 1, 0, 0), (1, .iload_n 1, 1, 0, 0), (2, .invokevirtual 388, 3, 0, 0), (5, .ifCond .eq 14, 3, 0, 0), (8, .aload_n 0, 1, 0, 0), (9, .getfield 76, 3, 12, 39), (12, .iload_n 1, 1, 0, 0), (13, .iaload, 1, 0, 0), (14, .bipush 7, 2, 0, 0), (16, .if_icmp .ne 5, 3, 0, 0), (19, .iconst (-1), 1, 0, 0), (20, .ireturn, 1, 0, 0), (21, .aload_n 0, 1, 0, 0), (22, .invokevirtual 403, 3, 0, 0), (25, .aload_n 0, 1, 0, 0), (26, .getfield 76, 3, 12, 39), (29, .iload_n 1, 1, 0, 0), (30, .dup2, 1, 0, 0), (31, .iaload, 1, 0, 0), (32, .iconst 1, 1, 0, 0), (33, .iadd, 1, 0, 0), (34, .iastore, 1, 0, 0), (35, .aload_n 0, 1, 0, 0), (36, .getfield 76, 3, 12, 39), (39, .iload_n 1, 1, 0, 0), (40, .iaload, 1, 0, 0), (41, .ireturn, 1, 0, 0)]
set_option maxRecDepth 100000 in
theorem kX12_comes : mTok cX12_comes RX12 2 false tX12_comes := mTok_of (by decide +kernel) ⟨trivial, trivial, trivial, trivial, trivial, ⟨_, rfl, lfRX12_76⟩, trivial, trivial, trivial, trivial, trivial, trivial, trivial, trivial, trivial, ⟨_, rfl, lfRX12_76⟩, trivial, trivial, trivial, trivial, trivial, trivial, trivial, ⟨_, rfl, lfRX12_76⟩, trivial, trivial, trivial, trivial⟩
def tX12_leaves : List mI := [(0, .aload_n 0, 1, 0, 0), (1, .invokevirtual 391, 3, 0, 0), (4, .aload_n 0, 1, 0, 0), (5, .getfield 79, 3, 12, 40), (8, .iload_n 1, 1, 0, 0), (9, .dup2, 1, 0, 0), (10, .iaload, 1, 0, 0), (11, .iconst 1, 1, 0, 0), (12, .isub, 1, 0, 0), (13, .iastore, 1, 0, 0), (14, .aload_n 0, 1, 0, 0), (15, .iload_n 1, 1, 0, 0), (16, .invokevirtual 385, 3, 0, 0), (19, .aload_n 0, 1, 0, 0), (20, .invokevirtual 406, 3, 0, 0), (23, .return_, 1, 0, 0)]
set_option maxRecDepth 100000 in
theorem kX12_leaves : mTok cX12_leaves RX12 2 false tX12_leaves := mTok_of (by decide +kernel) ⟨trivial, trivial, trivial, ⟨_, rfl, lfRX12_79⟩, trivial, trivial, trivial, trivial, trivial, trivial, trivial, trivial, trivial, trivial, trivial, trivial, trivial⟩
def tX12_goes : List mI := [(0, .aload_n 0, 1, 0, 0), (1, .iload_n 1, 1, 0, 0), (2, .invokevirtual 388, 3, 0, 0), (5, .ifCond .eq 12, 3, 0, 0), (8, .aload_n 0, 1, 0, 0), (9, .getfield 76, 3, 12, 39), (12, .iload_n 1, 1, 0, 0), (13, .iaload, 1, 0, 0), (14, .ifCond .ne 5, 3, 0, 0), (17, .iconst (-1), 1, 0, 0), (18, .ireturn, 1, 0, 0), (19, .aload_n 0, 1, 0, 0), (20, .invokevirtual 403, 3, 0, 0), (23, .aload_n 0, 1, 0, 0), (24, .iload_n 1, 1, 0, 0), (25, .invokevirtual 409, 3, 0, 0), (28, .aload_n 0, 1, 0, 0), (29, .getfield 76, 3, 12, 39), (32, .iload_n 1, 1, 0, 0), (33, .iaload, 1, 0, 0), (34, .ireturn, 1, 0, 0)]
set_option maxRecDepth 100000 in
theorem kX12_goes : mTok cX12_goes RX12 2 false tX12_goes := mTok_of (by decide +kernel) ⟨trivial, trivial, trivial, trivial, trivial, ⟨_, rfl, lfRX12_76⟩, trivial, trivial, trivial, trivial, trivial, trivial, trivial, trivial, trivial, trivial, trivial, ⟨_, rfl, lfRX12_76⟩, trivial, trivial, trivial, trivial⟩
def tX12_moves : List mI := [(0, .aload_n 0, 1, 0, 0), (1, .iload_n 1, 1, 0, 0), (2, .invokevirtual 388, 3, 0, 0), (5, .ifCond .eq 36, 3, 0, 0), (8, .aload_n 0, 1, 0, 0), (9, .iload_n 2, 1, 0, 0), (10, .invokevirtual 388, 3, 0, 0), (13, .ifCond .eq 28, 3, 0, 0), (16, .iload_n 1, 1, 0, 0), (17, .iload_n 2, 1, 0, 0), (18, .if_icmp .eq 23, 3, 0, 0), (21, .aload_n 0, 1, 0, 0), (22, .getfield 76, 3, 12, 39), (25, .iload_n 1, 1, 0, 0), (26, .iaload, 1, 0, 0), (27, .ifCond .eq 14, 3, 0, 0), (30, .aload_n 0, 1, 0, 0), (31, .getfield 76, 3, 12, 39), (34, .iload_n 2, 1, 0, 0), (35, .iaload, 1, 0, 0), (36, .bipush 7, 2, 0, 0), (38, .if_icmp .ne 5, 3, 0, 0), (41, .iconst (-1), 1, 0, 0), (42, .ireturn, 1, 0, 0), (43, .aload_n 0, 1, 0, 0), (44, .invokevirtual 403, 3, 0, 0), (47, .aload_n 0, 1, 0, 0), (48, .iload_n 1, 1, 0, 0), (49, .invokevirtual 409, 3, 0, 0), (52, .aload_n 0, 1, 0, 0), (53, .getfield 76, 3, 12, 39), (56, .iload_n 2, 1, 0, 0), (57, .dup2, 1, 0, 0), (58, .iaload, 1, 0, 0), (59, .iconst 1, 1, 0, 0), (60, .iadd, 1, 0, 0), (61, .iastore, 1, 0, 0), (62, .aload_n 0, 1, 0, 0), (63, .getfield 76, 3, 12, 39), (66, .iload_n 2, 1, 0, 0), (67, .iaload, 1, 0, 0), (68, .ireturn, 1, 0, 0)]
set_option maxRecDepth 100000 in
theorem kX12_moves : mTok cX12_moves RX12 3 false tX12_moves := mTok_of (by decide +kernel) ⟨trivial, trivial, trivial, trivial, trivial, trivial, trivial, trivial, trivial, trivial, trivial, trivial, ⟨_, rfl, lfRX12_76⟩, trivial, trivial, trivial, trivial, ⟨_, rfl, lfRX12_76⟩, trivial, trivial, trivial, trivial, trivial, trivial, trivial, trivial, trivial, trivial, trivial, trivial, ⟨_, rfl, lfRX12_76⟩, trivial, trivial, trivial, trivial, trivial, trivial, trivial, ⟨_, rfl, lfRX12_76⟩, trivial, trivial, trivial, trivial⟩
end
section
def tX12_hide : List mI := [(0, .aload_n 0, 1, 0, 0), (1, .iload_n 1, 1, 0, 0), (2, .invokevirtual 388, 3, 0, 0), (5, .ifCond .eq 17, 3, 0, 0), (8, .iload_n 2, 1, 0, 0), (9, .iconst 0, 1, 0, 0), (10, .aload_n 0, 1, 0, 0), (11, .getfield 76, 3, 12, 39), (14, .iload_n 1, 1, 0, 0), (15, .iaload, 1, 0, 0), (16, .invokestatic 362, 3, 0, 0), (19, .ifCond .ne 5, 3, 0, 0), (22, .iconst (-1), 1, 0, 0), (23, .ireturn, 1, 0, 0), (24, .aload_n 0, 1, 0, 0), (25, .invokevirtual 403, 3, 0, 0), (28, .aload_n 0, 1, 0, 0), (29, .getfield 76, 3, 12, 39), (32, .iconst 5, 1, 0, 0), (33, .iload_n 1, 1, 0, 0), (34, .iadd, 1, 0, 0), (35, .iaload, 1, 0, 0), (36, .istore_n 3, 1, 0, 0), (37, .aload_n 0, 1, 0, 0), (38, .getfield 76, 3, 12, 39), (41, .iconst 5, 1, 0, 0), (42, .iload_n 1, 1, 0, 0), (43, .iadd, 1, 0, 0), (44, .iload_n 2, 1, 0, 0), (45, .iastore, 1, 0, 0), (46, .iload_n 3, 1, 0, 0), (47, .ireturn, 1, 0, 0)]
set_option maxRecDepth 100000 in
theorem kX12_hide : mTok cX12_hide RX12 4 false tX12_hide := mTok_of (by decide +kernel) ⟨trivial, trivial, trivial, trivial, trivial, trivial, trivial, ⟨_, rfl, lfRX12_76⟩, trivial, trivial, (fun z => by cases z), trivial, trivial, trivial, trivial, trivial, trivial, ⟨_, rfl, lfRX12_76⟩, trivial, trivial, trivial, trivial, trivial, trivial, ⟨_, rfl, lfRX12_76⟩, trivial, trivial, trivial, trivial, trivial, trivial, trivial, trivial⟩
def tX12_steal : List mI := [(0, .aload_n 0, 1, 0, 0), (1, .iload_n 1, 1, 0, 0), (2, .invokevirtual 388, 3, 0, 0), (5, .ifCond .eq 26, 3, 0, 0), (8, .iload_n 2, 1, 0, 0), (9, .iconst 1, 1, 0, 0), (10, .bipush 99, 2, 0, 0), (12, .invokestatic 362, 3, 0, 0), (15, .ifCond .eq 16, 3, 0, 0), (18, .iload_n 2, 1, 0, 0), (19, .aload_n 0, 1, 0, 0), (20, .getfield 76, 3, 12, 39), (23, .bipush 10, 2, 0, 0), (25, .iload_n 1, 1, 0, 0), (26, .iadd, 1, 0, 0), (27, .iaload, 1, 0, 0), (28, .if_icmp .le 5, 3, 0, 0), (31, .iconst (-1), 1, 0, 0), (32, .ireturn, 1, 0, 0), (33, .aload_n 0, 1, 0, 0), (34, .invokevirtual 403, 3, 0, 0), (37, .aload_n 0, 1, 0, 0), (38, .getfield 76, 3, 12, 39), (41, .bipush 10, 2, 0, 0), (43, .iload_n 1, 1, 0, 0), (44, .iadd, 1, 0, 0), (45, .dup2, 1, 0, 0), (46, .iaload, 1, 0, 0), (47, .iload_n 2, 1, 0, 0), (48, .isub, 1, 0, 0), (49, .iastore, 1, 0, 0), (50, .aload_n 0, 1, 0, 0), (51, .getfield 76, 3, 12, 39), (54, .bipush 10, 2, 0, 0), (56, .iload_n 1, 1, 0, 0), (57, .iadd, 1, 0, 0), (58, .iaload, 1, 0, 0), (59, .ireturn, 1, 0, 0)]
set_option maxRecDepth 100000 in
theorem kX12_steal : mTok cX12_steal RX12 3 false tX12_steal := mTok_of (by decide +kernel) ⟨trivial, trivial, trivial, trivial, trivial, trivial, trivial, (fun z => by cases z), trivial, trivial, trivial, ⟨_, rfl, lfRX12_76⟩, trivial, trivial, trivial, trivial, trivial, trivial, trivial, trivial, trivial, trivial, ⟨_, rfl, lfRX12_76⟩, trivial, trivial, trivial, trivial, trivial, trivial, trivial, trivial, trivial, ⟨_, rfl, lfRX12_76⟩, trivial, trivial, trivial, trivial, trivial, trivial⟩
def tX12_summer : List mI := [(0, .aload_n 0, 1, 0, 0), (1, .getfield 76, 3, 12, 39), (4, .bipush 15, 2, 0, 0), (6, .iaload, 1, 0, 0), (7, .sipush 999, 3, 0, 0), (10, .if_icmp .ne 5, 3, 0, 0), (13, .iconst (-1), 1, 0, 0), (14, .ireturn, 1, 0, 0), (15, .aload_n 0, 1, 0, 0), (16, .invokevirtual 403, 3, 0, 0), (19, .aload_n 0, 1, 0, 0), (20, .invokevirtual 391, 3, 0, 0), (23, .aload_n 0, 1, 0, 0), (24, .invokevirtual 412, 3, 0, 0), (27, .aload_n 0, 1, 0, 0), (28, .invokevirtual 406, 3, 0, 0), (31, .aload_n 0, 1, 0, 0), (32, .invokevirtual 415, 3, 0, 0), (35, .ireturn, 1, 0, 0)]
set_option maxRecDepth 100000 in
theorem kX12_summer : mTok cX12_summer RX12 1 false tX12_summer := mTok_of (by decide +kernel) ⟨trivial, ⟨_, rfl, lfRX12_76⟩, trivial, trivial, trivial, trivial, trivial, trivial, trivial, trivial, trivial, trivial, trivial, trivial, trivial, trivial, trivial, trivial, trivial, trivial⟩
def tX12_undo : List mI := [(0, .aload_n 0, 1, 0, 0), (1, .getfield 350, 3, 12, 46), (4, .ifCond .ne 5, 3, 0, 0), (7, .iconst 0, 1, 0, 0), (8, .ireturn, 1, 0, 0), (9, .aload_n 0, 1, 0, 0), (10, .dup, 1, 0, 0), (11, .getfield 350, 3, 12, 46), (14, .iconst 1, 1, 0, 0), (15, .isub, 1, 0, 0), (16, .putfield 350, 3, 12, 46), (19, .aload_n 0, 1, 0, 0), (20, .dup, 1, 0, 0), (21, .getfield 353, 3, 12, 47), (24, .iconst 1, 1, 0, 0), (25, .iadd, 1, 0, 0), (26, .putfield 353, 3, 12, 47), (29, .aload_n 0, 1, 0, 0), (30, .bipush 18, 2, 0, 0), (32, .aload_n 0, 1, 0, 0), (33, .getfield 350, 3, 12, 46), (36, .imul, 1, 0, 0), (37, .invokevirtual 418, 3, 0, 0), (40, .iconst 1, 1, 0, 0), (41, .ireturn, 1, 0, 0)]
set_option maxRecDepth 100000 in
theorem kX12_undo : mTok cX12_undo RX12 1 false tX12_undo := mTok_of (by decide +kernel) ⟨trivial, ⟨_, rfl, lfRX12_350⟩, trivial, trivial, trivial, trivial, trivial, ⟨_, rfl, lfRX12_350⟩, trivial, trivial, ⟨_, rfl, lfRX12_350, (fun z => by cases z)⟩, trivial, trivial, ⟨_, rfl, lfRX12_353⟩, trivial, trivial, ⟨_, rfl, lfRX12_353, (fun z => by cases z)⟩, trivial, trivial, trivial, ⟨_, rfl, lfRX12_350⟩, trivial, trivial, trivial, trivial, trivial⟩
def tX12_redo : List mI := [(0, .aload_n 0, 1, 0, 0), (1, .getfield 353, 3, 12, 47), (4, .ifCond .ne 5, 3, 0, 0), (7, .iconst 0, 1, 0, 0), (8, .ireturn, 1, 0, 0), (9, .aload_n 0, 1, 0, 0), (10, .bipush 18, 2, 0, 0), (12, .aload_n 0, 1, 0, 0), (13, .getfield 350, 3, 12, 46), (16, .imul, 1, 0, 0), (17, .invokevirtual 418, 3, 0, 0), (20, .aload_n 0, 1, 0, 0), (21, .dup, 1, 0, 0), (22, .getfield 350, 3, 12, 46), (25, .iconst 1, 1, 0, 0), (26, .iadd, 1, 0, 0), (27, .putfield 350, 3, 12, 46), (30, .aload_n 0, 1, 0, 0), (31, .dup, 1, 0, 0), (32, .getfield 353, 3, 12, 47), (35, .iconst 1, 1, 0, 0), (36, .isub, 1, 0, 0), (37, .putfield 353, 3, 12, 47), (40, .iconst 1, 1, 0, 0), (41, .ireturn, 1, 0, 0)]
set_option maxRecDepth 100000 in
theorem kX12_redo : mTok cX12_redo RX12 1 false tX12_redo := mTok_of (by decide +kernel) ⟨trivial, ⟨_, rfl, lfRX12_353⟩, trivial, trivial, trivial, trivial, trivial, trivial, ⟨_, rfl, lfRX12_350⟩, trivial, trivial, trivial, trivial, ⟨_, rfl, lfRX12_350⟩, trivial, trivial, ⟨_, rfl, lfRX12_350, (fun z => by cases z)⟩, trivial, trivial, ⟨_, rfl, lfRX12_353⟩, trivial, trivial, ⟨_, rfl, lfRX12_353, (fun z => by cases z)⟩, trivial, trivial, trivial⟩
def tX12_falses : List mI := [(0, .iconst 0, 1, 0, 0), (1, .istore_n 1, 1, 0, 0), (2, .iconst 0, 1, 0, 0), (3, .istore_n 2, 1, 0, 0), (4, .iload_n 2, 1, 0, 0), (5, .aload_n 0, 1, 0, 0), (6, .getfield 344, 3, 12, 37), (9, .if_icmp .ge 40, 3, 0, 0), (12, .iload_n 1, 1, 0, 0), (13, .aload_n 0, 1, 0, 0), (14, .getfield 76, 3, 12, 39), (17, .bipush 10, 2, 0, 0), (19, .iload_n 2, 1, 0, 0), (20, .iadd, 1, 0, 0), (21, .iaload, 1, 0, 0), (22, .aload_n 0, 1, 0, 0), (23, .getfield 76, 3, 12, 39), (26, .iload_n 2, 1, 0, 0), (27, .iaload, 1, 0, 0), (28, .if_icmp .eq 7, 3, 0, 0), (31, .iconst 1, 1, 0, 0), (32, .goto 4, 3, 0, 0), (35, .iconst 0, 1, 0, 0), (36, .invokestatic 307, 3, 0, 0), (39, .iload_n 2, 1, 0, 0), (40, .ishl, 1, 0, 0), (41, .ior, 1, 0, 0), (42, .istore_n 1, 1, 0, 0), (43, .iinc 2 1, 3, 0, 0), (46, .goto (-42), 3, 0, 0), (49, .iload_n 1, 1, 0, 0), (50, .ireturn, 1, 0, 0)]
set_option maxRecDepth 100000 in
theorem kX12_falses : mTok cX12_falses RX12 3 false tX12_falses := mTok_of (by decide +kernel) ⟨trivial, trivial, trivial, trivial, trivial, trivial, ⟨_, rfl, lfRX12_344⟩, trivial, trivial, trivial, ⟨_, rfl, lfRX12_76⟩, trivial, trivial, trivial, trivial, trivial, ⟨_, rfl, lfRX12_76⟩, trivial, trivial, trivial, trivial, trivial, trivial, (fun z => by cases z), trivial, trivial, trivial, trivial, trivial, trivial, trivial, trivial, trivial⟩
def tX12_goFar : List mI := [(0, .aload_n 0, 1, 0, 0), (1, .invokevirtual 391, 3, 0, 0), (4, .iconst 0, 1, 0, 0), (5, .istore_n 2, 1, 0, 0), (6, .iload_n 2, 1, 0, 0), (7, .iload_n 1, 1, 0, 0), (8, .if_icmp .ge 13, 3, 0, 0), (11, .aload_n 0, 1, 0, 0), (12, .invokevirtual 412, 3, 0, 0), (15, .iinc 2 1, 3, 0, 0), (18, .goto (-12), 3, 0, 0), (21, .return_, 1, 0, 0)]
set_option maxRecDepth 100000 in
theorem kX12_goFar : mTok cX12_goFar RX12 3 false tX12_goFar := mTok_of (by decide +kernel) ⟨trivial, trivial, trivial, trivial, trivial, trivial, trivial, trivial, trivial, trivial, trivial, trivial, trivial⟩
def tX12_will : List mI := [(0, .aload_n 0, 1, 0, 0), (1, .iload_n 1, 1, 0, 0), (2, .invokevirtual 388, 3, 0, 0), (5, .ifCond .eq 13, 3, 0, 0), (8, .iload_n 2, 1, 0, 0), (9, .iconst 0, 1, 0, 0), (10, .bipush 60, 2, 0, 0), (12, .invokestatic 362, 3, 0, 0), (15, .ifCond .ne 5, 3, 0, 0), (18, .iconst (-1), 1, 0, 0), (19, .ireturn, 1, 0, 0), (20, .aload_n 0, 1, 0, 0), (21, .iload_n 2, 1, 0, 0), (22, .invokevirtual 421, 3, 0, 0), (25, .aload_n 0, 1, 0, 0), (26, .getfield 79, 3, 12, 40), (29, .iload_n 1, 1, 0, 0), (30, .iaload, 1, 0, 0), (31, .ireturn, 1, 0, 0)]
set_option maxRecDepth 100000 in
theorem kX12_will : mTok cX12_will RX12 3 false tX12_will := mTok_of (by decide +kernel) ⟨trivial, trivial, trivial, trivial, trivial, trivial, trivial, (fun z => by cases z), trivial, trivial, trivial, trivial, trivial, trivial, trivial, ⟨_, rfl, lfRX12_79⟩, trivial, trivial, trivial, trivial⟩
def tX12_bowls : List mI := [(0, .iload_n 1, 1, 0, 0), (1, .iconst 0, 1, 0, 0), (2, .bipush 60, 2, 0, 0), (4, .invokestatic 362, 3, 0, 0), (7, .ifCond .ne 5, 3, 0, 0), (10, .iconst (-1), 1, 0, 0), (11, .ireturn, 1, 0, 0), (12, .aload_n 0, 1, 0, 0), (13, .iload_n 1, 1, 0, 0), (14, .invokevirtual 421, 3, 0, 0), (17, .aload_n 0, 1, 0, 0), (18, .invokevirtual 415, 3, 0, 0), (21, .ireturn, 1, 0, 0)]
set_option maxRecDepth 100000 in
theorem kX12_bowls : mTok cX12_bowls RX12 2 false tX12_bowls := mTok_of (by decide +kernel) ⟨trivial, trivial, trivial, (fun z => by cases z), trivial, trivial, trivial, trivial, trivial, trivial, trivial, trivial, trivial, trivial⟩
def tX12_layTaxes : List mI := [(0, .aload_n 0, 1, 0, 0), (1, .invokevirtual 391, 3, 0, 0), (4, .iconst 0, 1, 0, 0), (5, .istore_n 1, 1, 0, 0), (6, .iload_n 1, 1, 0, 0), (7, .aload_n 0, 1, 0, 0), (8, .getfield 344, 3, 12, 37), (11, .if_icmp .ge 73, 3, 0, 0), (14, .iconst 0, 1, 0, 0), (15, .istore_n 2, 1, 0, 0), (16, .iload_n 2, 1, 0, 0), (17, .bipush 7, 2, 0, 0), (19, .if_icmp .gt 59, 3, 0, 0), (22, .aload_n 0, 1, 0, 0), (23, .getfield 82, 3, 12, 41), (26, .iload_n 1, 1, 0, 0), (27, .iload_n 2, 1, 0, 0), (28, .iastore, 1, 0, 0), (29, .aload_n 0, 1, 0, 0), (30, .getfield 91, 3, 12, 48), (33, .bipush 8, 2, 0, 0), (35, .iload_n 1, 1, 0, 0), (36, .imul, 1, 0, 0), (37, .iload_n 2, 1, 0, 0), (38, .iadd, 1, 0, 0), (39, .iload_n 2, 1, 0, 0), (40, .aload_n 0, 1, 0, 0), (41, .getfield 79, 3, 12, 40), (44, .iload_n 1, 1, 0, 0), (45, .iaload, 1, 0, 0), (46, .if_icmp .gt 11, 3, 0, 0), (49, .aload_n 0, 1, 0, 0), (50, .iload_n 1, 1, 0, 0), (51, .invokevirtual 394, 3, 0, 0), (54, .ifCond .eq 7, 3, 0, 0), (57, .iconst (-1), 1, 0, 0), (58, .goto 13, 3, 0, 0), (61, .aload_n 0, 1, 0, 0), (62, .iload_n 1, 1, 0, 0), (63, .aload_n 0, 1, 0, 0), (64, .iload_n 1, 1, 0, 0), (65, .invokevirtual 382, 3, 0, 0), (68, .invokevirtual 397, 3, 0, 0), (71, .iastore, 1, 0, 0), (72, .iinc 2 1, 3, 0, 0), (75, .goto (-59), 3, 0, 0), (78, .iinc 1 1, 3, 0, 0), (81, .goto (-75), 3, 0, 0), (84, .return_, 1, 0, 0)]
set_option maxRecDepth 100000 in
theorem kX12_layTaxes : mTok cX12_layTaxes RX12 3 false tX12_layTaxes := mTok_of (by decide +kernel) ⟨trivial, trivial, trivial, trivial, trivial, trivial, ⟨_, rfl, lfRX12_344⟩, trivial, trivial, trivial, trivial, trivial, trivial, trivial, ⟨_, rfl, lfRX12_82⟩, trivial, trivial, trivial, trivial, ⟨_, rfl, lfRX12_91⟩, trivial, trivial, trivial, trivial, trivial, trivial, trivial, ⟨_, rfl, lfRX12_79⟩, trivial, trivial, trivial, trivial, trivial, trivial, trivial, trivial, trivial, trivial, trivial, trivial, trivial, trivial, trivial, trivial, trivial, trivial, trivial, trivial, trivial, trivial⟩
def tX12_rowsOf : List mI := [(0, .iconst 1, 1, 0, 0), (1, .istore_n 1, 1, 0, 0), (2, .iconst 0, 1, 0, 0), (3, .istore_n 2, 1, 0, 0), (4, .iload_n 2, 1, 0, 0), (5, .aload_n 0, 1, 0, 0), (6, .getfield 344, 3, 12, 37), (9, .if_icmp .ge 14, 3, 0, 0), (12, .iload_n 1, 1, 0, 0), (13, .bipush 8, 2, 0, 0), (15, .imul, 1, 0, 0), (16, .istore_n 1, 1, 0, 0), (17, .iinc 2 1, 3, 0, 0), (20, .goto (-16), 3, 0, 0), (23, .iload_n 1, 1, 0, 0), (24, .ireturn, 1, 0, 0)]
set_option maxRecDepth 100000 in
theorem kX12_rowsOf : mTok cX12_rowsOf RX12 3 false tX12_rowsOf := mTok_of (by decide +kernel) ⟨trivial, trivial, trivial, trivial, trivial, trivial, ⟨_, rfl, lfRX12_344⟩, trivial, trivial, trivial, trivial, trivial, trivial, trivial, trivial, trivial, trivial⟩
def tX12_taxOfRow : List mI := [(0, .iload_n 1, 1, 0, 0), (1, .istore_n 2, 1, 0, 0), (2, .iconst 0, 1, 0, 0), (3, .istore_n 3, 1, 0, 0), (4, .aload_n 0, 1, 0, 0), (5, .iconst 0, 1, 0, 0), (6, .putfield 424, 3, 12, 52), (9, .aload_n 0, 1, 0, 0), (10, .getfield 344, 3, 12, 37), (13, .iconst 1, 1, 0, 0), (14, .isub, 1, 0, 0), (15, .istore 4, 2, 0, 0), (17, .iload 4, 2, 0, 0), (19, .ifCond .lt 73, 3, 0, 0), (22, .aload_n 0, 1, 0, 0), (23, .getfield 94, 3, 12, 49), (26, .iload 4, 2, 0, 0), (28, .iload_n 2, 1, 0, 0), (29, .bipush 8, 2, 0, 0), (31, .irem, 1, 0, 0), (32, .iastore, 1, 0, 0), (33, .iload_n 2, 1, 0, 0), (34, .bipush 8, 2, 0, 0), (36, .idiv, 1, 0, 0), (37, .istore_n 2, 1, 0, 0), (38, .aload_n 0, 1, 0, 0), (39, .getfield 91, 3, 12, 48), (42, .bipush 8, 2, 0, 0), (44, .iload 4, 2, 0, 0), (46, .imul, 1, 0, 0), (47, .aload_n 0, 1, 0, 0), (48, .getfield 94, 3, 12, 49), (51, .iload 4, 2, 0, 0), (53, .iaload, 1, 0, 0), (54, .iadd, 1, 0, 0), (55, .iaload, 1, 0, 0), (56, .istore 5, 2, 0, 0), (58, .iload 5, 2, 0, 0), (60, .ifCond .ge 5, 3, 0, 0), (63, .iconst (-1), 1, 0, 0), (64, .ireturn, 1, 0, 0), (65, .iload_n 3, 1, 0, 0), (66, .iload 5, 2, 0, 0), (68, .iadd, 1, 0, 0), (69, .istore_n 3, 1, 0, 0), (70, .aload_n 0, 1, 0, 0), (71, .dup, 1, 0, 0), (72, .getfield 424, 3, 12, 52), (75, .aload_n 0, 1, 0, 0), (76, .getfield 94, 3, 12, 49), (79, .iload 4, 2, 0, 0), (81, .iaload, 1, 0, 0), (82, .iadd, 1, 0, 0), (83, .putfield 424, 3, 12, 52), (86, .iinc 4 (-1), 3, 0, 0), (89, .goto (-72), 3, 0, 0), (92, .iload_n 3, 1, 0, 0), (93, .ireturn, 1, 0, 0)]
set_option maxRecDepth 100000 in
theorem kX12_taxOfRow : mTok cX12_taxOfRow RX12 6 false tX12_taxOfRow := mTok_of (by decide +kernel) ⟨trivial, trivial, trivial, trivial, trivial, trivial, ⟨_, rfl, lfRX12_424, (fun z => by cases z)⟩, trivial, ⟨_, rfl, lfRX12_344⟩, trivial, trivial, trivial, trivial, trivial, trivial, ⟨_, rfl, lfRX12_94⟩, trivial, trivial, trivial, trivial, trivial, trivial, trivial, trivial, trivial, trivial, ⟨_, rfl, lfRX12_91⟩, trivial, trivial, trivial, trivial, ⟨_, rfl, lfRX12_94⟩, trivial, trivial, trivial, trivial, trivial, trivial, trivial, trivial, trivial, trivial, trivial, trivial, trivial, trivial, trivial, ⟨_, rfl, lfRX12_424⟩, trivial, ⟨_, rfl, lfRX12_94⟩, trivial, trivial, trivial, ⟨_, rfl, lfRX12_424, (fun z => by cases z)⟩, trivial, trivial, trivial, trivial, trivial⟩
def tX12_leave : List mI := [(0, .aload_n 0, 1, 0, 0), (1, .iconst 0, 1, 0, 0), (2, .putfield 359, 3, 12, 51), (5, .iload_n 1, 1, 0, 0), (6, .iconst 0, 1, 0, 0), (7, .sipush 9999, 3, 0, 0), (10, .invokestatic 362, 3, 0, 0), (13, .ifCond .ne 5, 3, 0, 0), (16, .iconst (-1), 1, 0, 0), (17, .ireturn, 1, 0, 0), (18, .aload_n 0, 1, 0, 0), (19, .invokevirtual 427, 3, 0, 0), (22, .iconst (-1), 1, 0, 0), (23, .istore_n 2, 1, 0, 0), (24, .aload_n 0, 1, 0, 0), (25, .invokevirtual 430, 3, 0, 0), (28, .istore_n 3, 1, 0, 0), (29, .iconst 0, 1, 0, 0), (30, .istore 4, 2, 0, 0), (32, .iload 4, 2, 0, 0), (34, .iload_n 3, 1, 0, 0), (35, .if_icmp .ge 88, 3, 0, 0), (38, .aload_n 0, 1, 0, 0), (39, .iload 4, 2, 0, 0), (41, .invokevirtual 433, 3, 0, 0), (44, .istore 5, 2, 0, 0), (46, .iload 5, 2, 0, 0), (48, .ifCond .lt 69, 3, 0, 0), (51, .iload 5, 2, 0, 0), (53, .iload_n 1, 1, 0, 0), (54, .if_icmp .gt 63, 3, 0, 0), (57, .iload_n 2, 1, 0, 0), (58, .ifCond .lt 14, 3, 0, 0), (61, .aload_n 0, 1, 0, 0), (62, .getfield 424, 3, 12, 52), (65, .iload_n 2, 1, 0, 0), (66, .if_icmp .lt 6, 3, 0, 0), (69, .goto 48, 3, 0, 0), (72, .aload_n 0, 1, 0, 0), (73, .getfield 424, 3, 12, 52), (76, .istore_n 2, 1, 0, 0), (77, .iconst 0, 1, 0, 0), (78, .istore 6, 2, 0, 0), (80, .iload 6, 2, 0, 0), (82, .aload_n 0, 1, 0, 0), (83, .getfield 344, 3, 12, 37), (86, .if_icmp .ge 23, 3, 0, 0), (89, .aload_n 0, 1, 0, 0), (90, .getfield 97, 3, 12, 50), (93, .iload 6, 2, 0, 0), (95, .aload_n 0, 1, 0, 0), (96, .getfield 94, 3, 12, 49), (99, .iload 6, 2, 0, 0), (101, .iaload, 1, 0, 0), (102, .iastore, 1, 0, 0), (103, .iinc 6 1, 3, 0, 0), (106, .goto (-26), 3, 0, 0), (109, .aload_n 0, 1, 0, 0), (110, .aload_n 0, 1, 0, 0), (111, .getfield 344, 3, 12, 37), (114, .putfield 359, 3, 12, 51), (117, .iinc 4 1, 3, 0, 0), (120, .goto (-88), 3, 0, 0), (123, .iload_n 2, 1, 0, 0), (124, .ireturn, 1, 0, 0)]
set_option maxRecDepth 100000 in
theorem kX12_leave : mTok cX12_leave RX12 7 false tX12_leave := mTok_of (by decide +kernel) ⟨trivial, trivial, ⟨_, rfl, lfRX12_359, (fun z => by cases z)⟩, trivial, trivial, trivial, (fun z => by cases z), trivial, trivial, trivial, trivial, trivial, trivial, trivial, trivial, trivial, trivial, trivial, trivial, trivial, trivial, trivial, trivial, trivial, trivial, trivial, trivial, trivial, trivial, trivial, trivial, trivial, trivial, trivial, ⟨_, rfl, lfRX12_424⟩, trivial, trivial, trivial, trivial, ⟨_, rfl, lfRX12_424⟩, trivial, trivial, trivial, trivial, trivial, ⟨_, rfl, lfRX12_344⟩, trivial, trivial, ⟨_, rfl, lfRX12_97⟩, trivial, trivial, ⟨_, rfl, lfRX12_94⟩, trivial, trivial, trivial, trivial, trivial, trivial, trivial, ⟨_, rfl, lfRX12_344⟩, ⟨_, rfl, lfRX12_359, (fun z => by cases z)⟩, trivial, trivial, trivial, trivial, trivial⟩
def tX12_least : List mI := [(0, .aload_n 0, 1, 0, 0), (1, .invokevirtual 427, 3, 0, 0), (4, .iconst 0, 1, 0, 0), (5, .istore_n 1, 1, 0, 0), (6, .iconst 0, 1, 0, 0), (7, .istore_n 2, 1, 0, 0), (8, .iload_n 2, 1, 0, 0), (9, .aload_n 0, 1, 0, 0), (10, .getfield 344, 3, 12, 37), (13, .if_icmp .ge 85, 3, 0, 0), (16, .iconst (-1), 1, 0, 0), (17, .istore_n 3, 1, 0, 0), (18, .iconst 0, 1, 0, 0), (19, .istore 4, 2, 0, 0), (21, .iload 4, 2, 0, 0), (23, .bipush 7, 2, 0, 0), (25, .if_icmp .gt 57, 3, 0, 0), (28, .aload_n 0, 1, 0, 0), (29, .getfield 91, 3, 12, 48), (32, .bipush 8, 2, 0, 0), (34, .iload_n 2, 1, 0, 0), (35, .imul, 1, 0, 0), (36, .iload 4, 2, 0, 0), (38, .iadd, 1, 0, 0), (39, .iaload, 1, 0, 0), (40, .ifCond .lt 36, 3, 0, 0), (43, .iload_n 3, 1, 0, 0), (44, .ifCond .lt 19, 3, 0, 0), (47, .aload_n 0, 1, 0, 0), (48, .getfield 91, 3, 12, 48), (51, .bipush 8, 2, 0, 0), (53, .iload_n 2, 1, 0, 0), (54, .imul, 1, 0, 0), (55, .iload 4, 2, 0, 0), (57, .iadd, 1, 0, 0), (58, .iaload, 1, 0, 0), (59, .iload_n 3, 1, 0, 0), (60, .if_icmp .ge 16, 3, 0, 0), (63, .aload_n 0, 1, 0, 0), (64, .getfield 91, 3, 12, 48), (67, .bipush 8, 2, 0, 0), (69, .iload_n 2, 1, 0, 0), (70, .imul, 1, 0, 0), (71, .iload 4, 2, 0, 0), (73, .iadd, 1, 0, 0), (74, .iaload, 1, 0, 0), (75, .istore_n 3, 1, 0, 0), (76, .iinc 4 1, 3, 0, 0), (79, .goto (-58), 3, 0, 0), (82, .iload_n 3, 1, 0, 0), (83, .ifCond .ge 5, 3, 0, 0), (86, .iconst (-1), 1, 0, 0), (87, .ireturn, 1, 0, 0), (88, .iload_n 1, 1, 0, 0), (89, .iload_n 3, 1, 0, 0), (90, .iadd, 1, 0, 0), (91, .istore_n 1, 1, 0, 0), (92, .iinc 2 1, 3, 0, 0), (95, .goto (-87), 3, 0, 0), (98, .iload_n 1, 1, 0, 0), (99, .ireturn, 1, 0, 0)]
set_option maxRecDepth 100000 in
theorem kX12_least : mTok cX12_least RX12 5 false tX12_least := mTok_of (by decide +kernel) ⟨trivial, trivial, trivial, trivial, trivial, trivial, trivial, trivial, ⟨_, rfl, lfRX12_344⟩, trivial, trivial, trivial, trivial, trivial, trivial, trivial, trivial, trivial, ⟨_, rfl, lfRX12_91⟩, trivial, trivial, trivial, trivial, trivial, trivial, trivial, trivial, trivial, trivial, ⟨_, rfl, lfRX12_91⟩, trivial, trivial, trivial, trivial, trivial, trivial, trivial, trivial, trivial, ⟨_, rfl, lfRX12_91⟩, trivial, trivial, trivial, trivial, trivial, trivial, trivial, trivial, trivial, trivial, trivial, trivial, trivial, trivial, trivial, trivial, trivial, trivial, trivial, trivial, trivial, trivial⟩
def tX12_layCounters : List mI := [(0, .iload_n 1, 1, 0, 0), (1, .istore_n 2, 1, 0, 0), (2, .aload_n 0, 1, 0, 0), (3, .getfield 344, 3, 12, 37), (6, .iconst 1, 1, 0, 0), (7, .isub, 1, 0, 0), (8, .istore_n 3, 1, 0, 0), (9, .iload_n 3, 1, 0, 0), (10, .ifCond .lt 22, 3, 0, 0), (13, .aload_n 0, 1, 0, 0), (14, .getfield 100, 3, 12, 53), (17, .iload_n 3, 1, 0, 0), (18, .iload_n 2, 1, 0, 0), (19, .iconst 5, 1, 0, 0), (20, .irem, 1, 0, 0), (21, .iastore, 1, 0, 0), (22, .iload_n 2, 1, 0, 0), (23, .iconst 5, 1, 0, 0), (24, .idiv, 1, 0, 0), (25, .istore_n 2, 1, 0, 0), (26, .iinc 3 (-1), 3, 0, 0), (29, .goto (-20), 3, 0, 0), (32, .iconst 0, 1, 0, 0), (33, .istore_n 3, 1, 0, 0), (34, .iconst 0, 1, 0, 0), (35, .istore 4, 2, 0, 0), (37, .iload 4, 2, 0, 0), (39, .aload_n 0, 1, 0, 0), (40, .getfield 344, 3, 12, 37), (43, .if_icmp .ge 44, 3, 0, 0), (46, .aload_n 0, 1, 0, 0), (47, .getfield 100, 3, 12, 53), (50, .iload 4, 2, 0, 0), (52, .iaload, 1, 0, 0), (53, .iload_n 3, 1, 0, 0), (54, .if_icmp .le 5, 3, 0, 0), (57, .iconst (-1), 1, 0, 0), (58, .ireturn, 1, 0, 0), (59, .iload_n 3, 1, 0, 0), (60, .aload_n 0, 1, 0, 0), (61, .getfield 100, 3, 12, 53), (64, .iload 4, 2, 0, 0), (66, .iaload, 1, 0, 0), (67, .iload_n 3, 1, 0, 0), (68, .if_icmp .ne 7, 3, 0, 0), (71, .iconst 1, 1, 0, 0), (72, .goto 4, 3, 0, 0), (75, .iconst 0, 1, 0, 0), (76, .invokestatic 307, 3, 0, 0), (79, .iadd, 1, 0, 0), (80, .istore_n 3, 1, 0, 0), (81, .iinc 4 1, 3, 0, 0), (84, .goto (-47), 3, 0, 0), (87, .iload_n 3, 1, 0, 0), (88, .ireturn, 1, 0, 0)]
set_option maxRecDepth 100000 in
theorem kX12_layCounters : mTok cX12_layCounters RX12 5 false tX12_layCounters := mTok_of (by decide +kernel) ⟨trivial, trivial, trivial, ⟨_, rfl, lfRX12_344⟩, trivial, trivial, trivial, trivial, trivial, trivial, ⟨_, rfl, lfRX12_100⟩, trivial, trivial, trivial, trivial, trivial, trivial, trivial, trivial, trivial, trivial, trivial, trivial, trivial, trivial, trivial, trivial, trivial, ⟨_, rfl, lfRX12_344⟩, trivial, trivial, ⟨_, rfl, lfRX12_100⟩, trivial, trivial, trivial, trivial, trivial, trivial, trivial, trivial, ⟨_, rfl, lfRX12_100⟩, trivial, trivial, trivial, trivial, trivial, trivial, trivial, (fun z => by cases z), trivial, trivial, trivial, trivial, trivial, trivial, trivial⟩
def tX12_doneAt : List mI := [(0, .iconst 0, 1, 0, 0), (1, .istore_n 1, 1, 0, 0), (2, .iconst 0, 1, 0, 0), (3, .istore_n 2, 1, 0, 0), (4, .iload_n 2, 1, 0, 0), (5, .iconst 5, 1, 0, 0), (6, .if_icmp .ge 101, 3, 0, 0), (9, .iconst 0, 1, 0, 0), (10, .istore_n 3, 1, 0, 0), (11, .iconst 0, 1, 0, 0), (12, .istore 4, 2, 0, 0), (14, .iconst 0, 1, 0, 0), (15, .istore 5, 2, 0, 0), (17, .iload 5, 2, 0, 0), (19, .aload_n 0, 1, 0, 0), (20, .getfield 344, 3, 12, 37), (23, .if_icmp .ge 61, 3, 0, 0), (26, .aload_n 0, 1, 0, 0), (27, .getfield 100, 3, 12, 53), (30, .iload 5, 2, 0, 0), (32, .iaload, 1, 0, 0), (33, .iload_n 2, 1, 0, 0), (34, .if_icmp .eq 6, 3, 0, 0), (37, .goto 41, 3, 0, 0), (40, .aload_n 0, 1, 0, 0), (41, .getfield 67, 3, 12, 32), (44, .iload 5, 2, 0, 0), (46, .iaload, 1, 0, 0), (47, .iload_n 3, 1, 0, 0), (48, .if_icmp .le 13, 3, 0, 0), (51, .aload_n 0, 1, 0, 0), (52, .getfield 67, 3, 12, 32), (55, .iload 5, 2, 0, 0), (57, .iaload, 1, 0, 0), (58, .goto 4, 3, 0, 0), (61, .iload_n 3, 1, 0, 0), (62, .istore_n 3, 1, 0, 0), (63, .iload 4, 2, 0, 0), (65, .aload_n 0, 1, 0, 0), (66, .getfield 76, 3, 12, 39), (69, .bipush 10, 2, 0, 0), (71, .iload 5, 2, 0, 0), (73, .iadd, 1, 0, 0), (74, .iaload, 1, 0, 0), (75, .iadd, 1, 0, 0), (76, .istore 4, 2, 0, 0), (78, .iinc 5 1, 3, 0, 0), (81, .goto (-64), 3, 0, 0), (84, .iload_n 3, 1, 0, 0), (85, .iload 4, 2, 0, 0), (87, .iadd, 1, 0, 0), (88, .iload_n 1, 1, 0, 0), (89, .if_icmp .le 10, 3, 0, 0), (92, .iload_n 3, 1, 0, 0), (93, .iload 4, 2, 0, 0), (95, .iadd, 1, 0, 0), (96, .goto 4, 3, 0, 0), (99, .iload_n 1, 1, 0, 0), (100, .istore_n 1, 1, 0, 0), (101, .iinc 2 1, 3, 0, 0), (104, .goto (-100), 3, 0, 0), (107, .iload_n 1, 1, 0, 0), (108, .ireturn, 1, 0, 0)]
set_option maxRecDepth 100000 in
theorem kX12_doneAt : mTok cX12_doneAt RX12 6 false tX12_doneAt := mTok_of (by decide +kernel) ⟨trivial, trivial, trivial, trivial, trivial, trivial, trivial, trivial, trivial, trivial, trivial, trivial, trivial, trivial, trivial, ⟨_, rfl, lfRX12_344⟩, trivial, trivial, ⟨_, rfl, lfRX12_100⟩, trivial, trivial, trivial, trivial, trivial, trivial, ⟨_, rfl, lfRX12_67⟩, trivial, trivial, trivial, trivial, trivial, ⟨_, rfl, lfRX12_67⟩, trivial, trivial, trivial, trivial, trivial, trivial, trivial, ⟨_, rfl, lfRX12_76⟩, trivial, trivial, trivial, trivial, trivial, trivial, trivial, trivial, trivial, trivial, trivial, trivial, trivial, trivial, trivial, trivial, trivial, trivial, trivial, trivial, trivial, trivial, trivial, trivial⟩
def tX12_countersRows : List mI := [(0, .iconst 1, 1, 0, 0), (1, .istore_n 1, 1, 0, 0), (2, .iconst 0, 1, 0, 0), (3, .istore_n 2, 1, 0, 0), (4, .iload_n 2, 1, 0, 0), (5, .aload_n 0, 1, 0, 0), (6, .getfield 344, 3, 12, 37), (9, .if_icmp .ge 13, 3, 0, 0), (12, .iload_n 1, 1, 0, 0), (13, .iconst 5, 1, 0, 0), (14, .imul, 1, 0, 0), (15, .istore_n 1, 1, 0, 0), (16, .iinc 2 1, 3, 0, 0), (19, .goto (-15), 3, 0, 0), (22, .iload_n 1, 1, 0, 0), (23, .ireturn, 1, 0, 0)]
set_option maxRecDepth 100000 in
theorem kX12_countersRows : mTok cX12_countersRows RX12 3 false tX12_countersRows := mTok_of (by decide +kernel) ⟨trivial, trivial, trivial, trivial, trivial, trivial, ⟨_, rfl, lfRX12_344⟩, trivial, trivial, trivial, trivial, trivial, trivial, trivial, trivial, trivial, trivial⟩
def tX12_rounds : List mI := [(0, .aload_n 0, 1, 0, 0), (1, .iconst 0, 1, 0, 0), (2, .putfield 359, 3, 12, 51), (5, .iload_n 1, 1, 0, 0), (6, .iconst 0, 1, 0, 0), (7, .sipush 999, 3, 0, 0), (10, .invokestatic 362, 3, 0, 0), (13, .ifCond .ne 5, 3, 0, 0), (16, .iconst (-1), 1, 0, 0), (17, .ireturn, 1, 0, 0), (18, .iconst (-1), 1, 0, 0), (19, .istore_n 2, 1, 0, 0), (20, .aload_n 0, 1, 0, 0), (21, .invokevirtual 436, 3, 0, 0), (24, .istore_n 3, 1, 0, 0), (25, .iconst 0, 1, 0, 0), (26, .istore 4, 2, 0, 0), (28, .iload 4, 2, 0, 0), (30, .iload_n 3, 1, 0, 0), (31, .if_icmp .ge 86, 3, 0, 0), (34, .aload_n 0, 1, 0, 0), (35, .iload 4, 2, 0, 0), (37, .invokevirtual 439, 3, 0, 0), (40, .istore 5, 2, 0, 0), (42, .iload 5, 2, 0, 0), (44, .ifCond .lt 67, 3, 0, 0), (47, .iload_n 2, 1, 0, 0), (48, .ifCond .lt 9, 3, 0, 0), (51, .iload 5, 2, 0, 0), (53, .iload_n 2, 1, 0, 0), (54, .if_icmp .ge 57, 3, 0, 0), (57, .aload_n 0, 1, 0, 0), (58, .invokevirtual 442, 3, 0, 0), (61, .iload_n 1, 1, 0, 0), (62, .if_icmp .le 6, 3, 0, 0), (65, .goto 46, 3, 0, 0), (68, .iload 5, 2, 0, 0), (70, .istore_n 2, 1, 0, 0), (71, .iconst 0, 1, 0, 0), (72, .istore 6, 2, 0, 0), (74, .iload 6, 2, 0, 0), (76, .aload_n 0, 1, 0, 0), (77, .getfield 344, 3, 12, 37), (80, .if_icmp .ge 23, 3, 0, 0), (83, .aload_n 0, 1, 0, 0), (84, .getfield 97, 3, 12, 50), (87, .iload 6, 2, 0, 0), (89, .aload_n 0, 1, 0, 0), (90, .getfield 100, 3, 12, 53), (93, .iload 6, 2, 0, 0), (95, .iaload, 1, 0, 0), (96, .iastore, 1, 0, 0), (97, .iinc 6 1, 3, 0, 0), (100, .goto (-26), 3, 0, 0), (103, .aload_n 0, 1, 0, 0), (104, .aload_n 0, 1, 0, 0), (105, .getfield 344, 3, 12, 37), (108, .putfield 359, 3, 12, 51), (111, .iinc 4 1, 3, 0, 0), (114, .goto (-86), 3, 0, 0), (117, .iload_n 2, 1, 0, 0), (118, .ireturn, 1, 0, 0)]
set_option maxRecDepth 100000 in
theorem kX12_rounds : mTok cX12_rounds RX12 7 false tX12_rounds := mTok_of (by decide +kernel) ⟨trivial, trivial, ⟨_, rfl, lfRX12_359, (fun z => by cases z)⟩, trivial, trivial, trivial, (fun z => by cases z), trivial, trivial, trivial, trivial, trivial, trivial, trivial, trivial, trivial, trivial, trivial, trivial, trivial, trivial, trivial, trivial, trivial, trivial, trivial, trivial, trivial, trivial, trivial, trivial, trivial, trivial, trivial, trivial, trivial, trivial, trivial, trivial, trivial, trivial, trivial, ⟨_, rfl, lfRX12_344⟩, trivial, trivial, ⟨_, rfl, lfRX12_97⟩, trivial, trivial, ⟨_, rfl, lfRX12_100⟩, trivial, trivial, trivial, trivial, trivial, trivial, trivial, ⟨_, rfl, lfRX12_344⟩, ⟨_, rfl, lfRX12_359, (fun z => by cases z)⟩, trivial, trivial, trivial, trivial, trivial⟩
def tX12_noon : List mI := [(0, .aload_n 0, 1, 0, 0), (1, .getfield 344, 3, 12, 37), (4, .ifCond .eq 12, 3, 0, 0), (7, .iload_n 1, 1, 0, 0), (8, .iconst 1, 1, 0, 0), (9, .iconst 5, 1, 0, 0), (10, .invokestatic 362, 3, 0, 0), (13, .ifCond .ne 5, 3, 0, 0), (16, .iconst (-1), 1, 0, 0), (17, .ireturn, 1, 0, 0), (18, .iconst (-1), 1, 0, 0), (19, .istore_n 2, 1, 0, 0), (20, .aload_n 0, 1, 0, 0), (21, .invokevirtual 436, 3, 0, 0), (24, .istore_n 3, 1, 0, 0), (25, .iconst 0, 1, 0, 0), (26, .istore 4, 2, 0, 0), (28, .iload 4, 2, 0, 0), (30, .iload_n 3, 1, 0, 0), (31, .if_icmp .ge 54, 3, 0, 0), (34, .aload_n 0, 1, 0, 0), (35, .iload 4, 2, 0, 0), (37, .invokevirtual 439, 3, 0, 0), (40, .istore 5, 2, 0, 0), (42, .iload 5, 2, 0, 0), (44, .ifCond .lt 35, 3, 0, 0), (47, .iload 5, 2, 0, 0), (49, .iload_n 1, 1, 0, 0), (50, .if_icmp .le 6, 3, 0, 0), (53, .goto 26, 3, 0, 0), (56, .aload_n 0, 1, 0, 0), (57, .invokevirtual 442, 3, 0, 0), (60, .istore 6, 2, 0, 0), (62, .iload_n 2, 1, 0, 0), (63, .ifCond .lt 9, 3, 0, 0), (66, .iload 6, 2, 0, 0), (68, .iload_n 2, 1, 0, 0), (69, .if_icmp .ge 8, 3, 0, 0), (72, .iload 6, 2, 0, 0), (74, .goto 4, 3, 0, 0), (77, .iload_n 2, 1, 0, 0), (78, .istore_n 2, 1, 0, 0), (79, .iinc 4 1, 3, 0, 0), (82, .goto (-54), 3, 0, 0), (85, .iload_n 2, 1, 0, 0), (86, .ireturn, 1, 0, 0)]
set_option maxRecDepth 100000 in
theorem kX12_noon : mTok cX12_noon RX12 7 false tX12_noon := mTok_of (by decide +kernel) ⟨trivial, ⟨_, rfl, lfRX12_344⟩, trivial, trivial, trivial, trivial, (fun z => by cases z), trivial, trivial, trivial, trivial, trivial, trivial, trivial, trivial, trivial, trivial, trivial, trivial, trivial, trivial, trivial, trivial, trivial, trivial, trivial, trivial, trivial, trivial, trivial, trivial, trivial, trivial, trivial, trivial, trivial, trivial, trivial, trivial, trivial, trivial, trivial, trivial, trivial, trivial, trivial, trivial⟩
def tX12_without : List mI := [(0, .aload_n 0, 1, 0, 0), (1, .invokevirtual 391, 3, 0, 0), (4, .iconst 0, 1, 0, 0), (5, .istore_n 3, 1, 0, 0), (6, .iconst 0, 1, 0, 0), (7, .istore 4, 2, 0, 0), (9, .iload 4, 2, 0, 0), (11, .aload_n 0, 1, 0, 0), (12, .getfield 344, 3, 12, 37), (15, .if_icmp .ge 41, 3, 0, 0), (18, .iload_n 3, 1, 0, 0), (19, .aload_n 0, 1, 0, 0), (20, .invokevirtual 415, 3, 0, 0), (23, .iload_n 2, 1, 0, 0), (24, .aload_n 0, 1, 0, 0), (25, .getfield 85, 3, 12, 42), (28, .iload 4, 2, 0, 0), (30, .iaload, 1, 0, 0), (31, .imul, 1, 0, 0), (32, .iadd, 1, 0, 0), (33, .iload_n 1, 1, 0, 0), (34, .if_icmp .ne 7, 3, 0, 0), (37, .iconst 1, 1, 0, 0), (38, .goto 4, 3, 0, 0), (41, .iconst 0, 1, 0, 0), (42, .invokestatic 307, 3, 0, 0), (45, .iload 4, 2, 0, 0), (47, .ishl, 1, 0, 0), (48, .ior, 1, 0, 0), (49, .istore_n 3, 1, 0, 0), (50, .iinc 4 1, 3, 0, 0), (53, .goto (-44), 3, 0, 0), (56, .iload_n 3, 1, 0, 0), (57, .ireturn, 1, 0, 0)]
set_option maxRecDepth 100000 in
theorem kX12_without : mTok cX12_without RX12 5 false tX12_without := mTok_of (by decide +kernel) ⟨trivial, trivial, trivial, trivial, trivial, trivial, trivial, trivial, ⟨_, rfl, lfRX12_344⟩, trivial, trivial, trivial, trivial, trivial, trivial, ⟨_, rfl, lfRX12_85⟩, trivial, trivial, trivial, trivial, trivial, trivial, trivial, trivial, trivial, (fun z => by cases z), trivial, trivial, trivial, trivial, trivial, trivial, trivial, trivial, trivial⟩
def tX12_missed : List mI := [(0, .aload_n 0, 1, 0, 0), (1, .iload_n 1, 1, 0, 0), (2, .iconst (-1), 1, 0, 0), (3, .invokevirtual 445, 3, 0, 0), (6, .ireturn, 1, 0, 0)]
set_option maxRecDepth 100000 in
theorem kX12_missed : mTok cX12_missed RX12 2 false tX12_missed := mTok_of (by decide +kernel) ⟨trivial, trivial, trivial, trivial, trivial, trivial⟩
def tX12_doubled : List mI := [(0, .aload_n 0, 1, 0, 0), (1, .iload_n 1, 1, 0, 0), (2, .iconst 1, 1, 0, 0), (3, .invokevirtual 445, 3, 0, 0), (6, .ireturn, 1, 0, 0)]
set_option maxRecDepth 100000 in
theorem kX12_doubled : mTok cX12_doubled RX12 2 false tX12_doubled := mTok_of (by decide +kernel) ⟨trivial, trivial, trivial, trivial, trivial, trivial⟩
def tX12_laySeats : List mI := [(0, .aload_n 0, 1, 0, 0), (1, .invokevirtual 415, 3, 0, 0), (4, .istore_n 3, 1, 0, 0), (5, .iload_n 1, 1, 0, 0), (6, .istore 4, 2, 0, 0), (8, .iconst 0, 1, 0, 0), (9, .istore 5, 2, 0, 0), (11, .iload 5, 2, 0, 0), (13, .iconst 5, 1, 0, 0), (14, .if_icmp .ge 95, 3, 0, 0), (17, .aload_n 0, 1, 0, 0), (18, .getfield 103, 3, 12, 54), (21, .iload 5, 2, 0, 0), (23, .iload_n 2, 1, 0, 0), (24, .ifCond .ne 30, 3, 0, 0), (27, .iload_n 3, 1, 0, 0), (28, .ifCond .le 26, 3, 0, 0), (31, .iload 5, 2, 0, 0), (33, .aload_n 0, 1, 0, 0), (34, .getfield 344, 3, 12, 37), (37, .if_icmp .ge 17, 3, 0, 0), (40, .aload_n 0, 1, 0, 0), (41, .getfield 85, 3, 12, 42), (44, .iload 5, 2, 0, 0), (46, .iaload, 1, 0, 0), (47, .iload_n 1, 1, 0, 0), (48, .imul, 1, 0, 0), (49, .iload_n 3, 1, 0, 0), (50, .idiv, 1, 0, 0), (51, .goto 4, 3, 0, 0), (54, .iconst 0, 1, 0, 0), (55, .iastore, 1, 0, 0), (56, .aload_n 0, 1, 0, 0), (57, .getfield 106, 3, 12, 55), (60, .iload 5, 2, 0, 0), (62, .iload_n 3, 1, 0, 0), (63, .ifCond .le 26, 3, 0, 0), (66, .iload 5, 2, 0, 0), (68, .aload_n 0, 1, 0, 0), (69, .getfield 344, 3, 12, 37), (72, .if_icmp .ge 17, 3, 0, 0), (75, .aload_n 0, 1, 0, 0), (76, .getfield 85, 3, 12, 42), (79, .iload 5, 2, 0, 0), (81, .iaload, 1, 0, 0), (82, .iload_n 1, 1, 0, 0), (83, .imul, 1, 0, 0), (84, .iload_n 3, 1, 0, 0), (85, .irem, 1, 0, 0), (86, .goto 4, 3, 0, 0), (89, .iconst (-1), 1, 0, 0), (90, .iastore, 1, 0, 0), (91, .iload 4, 2, 0, 0), (93, .aload_n 0, 1, 0, 0), (94, .getfield 103, 3, 12, 54), (97, .iload 5, 2, 0, 0), (99, .iaload, 1, 0, 0), (100, .isub, 1, 0, 0), (101, .istore 4, 2, 0, 0), (103, .iinc 5 1, 3, 0, 0), (106, .goto (-95), 3, 0, 0), (109, .iload 4, 2, 0, 0), (111, .ifCond .le 118, 3, 0, 0), (114, .iload_n 3, 1, 0, 0), (115, .ifCond .le 114, 3, 0, 0), (118, .iconst 0, 1, 0, 0), (119, .istore 5, 2, 0, 0), (121, .iconst 1, 1, 0, 0), (122, .istore 6, 2, 0, 0), (124, .iload 6, 2, 0, 0), (126, .aload_n 0, 1, 0, 0), (127, .getfield 344, 3, 12, 37), (130, .if_icmp .ge 74, 3, 0, 0), (133, .iload_n 2, 1, 0, 0), (134, .ifCond .ne 23, 3, 0, 0), (137, .aload_n 0, 1, 0, 0), (138, .getfield 106, 3, 12, 55), (141, .iload 6, 2, 0, 0), (143, .iaload, 1, 0, 0), (144, .aload_n 0, 1, 0, 0), (145, .getfield 106, 3, 12, 55), (148, .iload 5, 2, 0, 0), (150, .iaload, 1, 0, 0), (151, .if_icmp .le 47, 3, 0, 0), (154, .goto 40, 3, 0, 0), (157, .aload_n 0, 1, 0, 0), (158, .getfield 85, 3, 12, 42), (161, .iload 6, 2, 0, 0), (163, .iaload, 1, 0, 0), (164, .aload_n 0, 1, 0, 0), (165, .getfield 103, 3, 12, 54), (168, .iload 5, 2, 0, 0), (170, .iaload, 1, 0, 0), (171, .iconst 1, 1, 0, 0), (172, .iadd, 1, 0, 0), (173, .imul, 1, 0, 0), (174, .aload_n 0, 1, 0, 0), (175, .getfield 85, 3, 12, 42), (178, .iload 5, 2, 0, 0), (180, .iaload, 1, 0, 0), (181, .aload_n 0, 1, 0, 0), (182, .getfield 103, 3, 12, 54), (185, .iload 6, 2, 0, 0), (187, .iaload, 1, 0, 0), (188, .iconst 1, 1, 0, 0), (189, .iadd, 1, 0, 0), (190, .imul, 1, 0, 0), (191, .if_icmp .le 7, 3, 0, 0), (194, .iload 6, 2, 0, 0), (196, .istore 5, 2, 0, 0), (198, .iinc 6 1, 3, 0, 0), (201, .goto (-77), 3, 0, 0), (204, .aload_n 0, 1, 0, 0), (205, .getfield 103, 3, 12, 54), (208, .iload 5, 2, 0, 0), (210, .dup2, 1, 0, 0), (211, .iaload, 1, 0, 0), (212, .iconst 1, 1, 0, 0), (213, .iadd, 1, 0, 0), (214, .iastore, 1, 0, 0), (215, .aload_n 0, 1, 0, 0), (216, .getfield 106, 3, 12, 55), (219, .iload 5, 2, 0, 0), (221, .iconst (-1), 1, 0, 0), (222, .iastore, 1, 0, 0), (223, .iinc 4 (-1), 3, 0, 0), (226, .goto (-117), 3, 0, 0), (229, .return_, 1, 0, 0)]
set_option maxRecDepth 100000 in
theorem kX12_laySeats : mTok cX12_laySeats RX12 7 false tX12_laySeats := mTok_of (by decide +kernel) ⟨trivial, trivial, trivial, trivial, trivial, trivial, trivial, trivial, trivial, trivial, trivial, ⟨_, rfl, lfRX12_103⟩, trivial, trivial, trivial, trivial, trivial, trivial, trivial, ⟨_, rfl, lfRX12_344⟩, trivial, trivial, ⟨_, rfl, lfRX12_85⟩, trivial, trivial, trivial, trivial, trivial, trivial, trivial, trivial, trivial, trivial, ⟨_, rfl, lfRX12_106⟩, trivial, trivial, trivial, trivial, trivial, ⟨_, rfl, lfRX12_344⟩, trivial, trivial, ⟨_, rfl, lfRX12_85⟩, trivial, trivial, trivial, trivial, trivial, trivial, trivial, trivial, trivial, trivial, trivial, ⟨_, rfl, lfRX12_103⟩, trivial, trivial, trivial, trivial, trivial, trivial, trivial, trivial, trivial, trivial, trivial, trivial, trivial, trivial, trivial, trivial, ⟨_, rfl, lfRX12_344⟩, trivial, trivial, trivial, trivial, ⟨_, rfl, lfRX12_106⟩, trivial, trivial, trivial, ⟨_, rfl, lfRX12_106⟩, trivial, trivial, trivial, trivial, trivial, ⟨_, rfl, lfRX12_85⟩, trivial, trivial, trivial, ⟨_, rfl, lfRX12_103⟩, trivial, trivial, trivial, trivial, trivial, trivial, ⟨_, rfl, lfRX12_85⟩, trivial, trivial, trivial, ⟨_, rfl, lfRX12_103⟩, trivial, trivial, trivial, trivial, trivial, trivial, trivial, trivial, trivial, trivial, trivial, ⟨_, rfl, lfRX12_103⟩, trivial, trivial, trivial, trivial, trivial, trivial, trivial, ⟨_, rfl, lfRX12_106⟩, trivial, trivial, trivial, trivial, trivial, trivial, trivial⟩
def tX12_seats : List mI := [(0, .aload_n 0, 1, 0, 0), (1, .iload_n 1, 1, 0, 0), (2, .invokevirtual 388, 3, 0, 0), (5, .ifCond .eq 22, 3, 0, 0), (8, .iload_n 2, 1, 0, 0), (9, .iconst 1, 1, 0, 0), (10, .bipush 20, 2, 0, 0), (12, .invokestatic 362, 3, 0, 0), (15, .ifCond .eq 12, 3, 0, 0), (18, .iload_n 3, 1, 0, 0), (19, .iconst 0, 1, 0, 0), (20, .iconst 1, 1, 0, 0), (21, .invokestatic 362, 3, 0, 0), (24, .ifCond .ne 5, 3, 0, 0), (27, .iconst (-1), 1, 0, 0), (28, .ireturn, 1, 0, 0), (29, .aload_n 0, 1, 0, 0), (30, .invokevirtual 391, 3, 0, 0), (33, .aload_n 0, 1, 0, 0), (34, .iload_n 2, 1, 0, 0), (35, .iload_n 3, 1, 0, 0), (36, .invokevirtual 448, 3, 0, 0), (39, .aload_n 0, 1, 0, 0), (40, .getfield 103, 3, 12, 54), (43, .iload_n 1, 1, 0, 0), (44, .iaload, 1, 0, 0), (45, .ireturn, 1, 0, 0)]
set_option maxRecDepth 100000 in
theorem kX12_seats : mTok cX12_seats RX12 4 false tX12_seats := mTok_of (by decide +kernel) ⟨trivial, trivial, trivial, trivial, trivial, trivial, trivial, (fun z => by cases z), trivial, trivial, trivial, trivial, (fun z => by cases z), trivial, trivial, trivial, trivial, trivial, trivial, trivial, trivial, trivial, trivial, ⟨_, rfl, lfRX12_103⟩, trivial, trivial, trivial, trivial⟩
def tX12_keepSeats : List mI := [(0, .iconst 0, 1, 0, 0), (1, .istore_n 1, 1, 0, 0), (2, .iload_n 1, 1, 0, 0), (3, .iconst 5, 1, 0, 0), (4, .if_icmp .ge 21, 3, 0, 0), (7, .aload_n 0, 1, 0, 0), (8, .getfield 109, 3, 12, 56), (11, .iload_n 1, 1, 0, 0), (12, .aload_n 0, 1, 0, 0), (13, .getfield 103, 3, 12, 54), (16, .iload_n 1, 1, 0, 0), (17, .iaload, 1, 0, 0), (18, .iastore, 1, 0, 0), (19, .iinc 1 1, 3, 0, 0), (22, .goto (-20), 3, 0, 0), (25, .return_, 1, 0, 0)]
set_option maxRecDepth 100000 in
theorem kX12_keepSeats : mTok cX12_keepSeats RX12 2 false tX12_keepSeats := mTok_of (by decide +kernel) ⟨trivial, trivial, trivial, trivial, trivial, trivial, ⟨_, rfl, lfRX12_109⟩, trivial, trivial, ⟨_, rfl, lfRX12_103⟩, trivial, trivial, trivial, trivial, trivial, trivial, trivial⟩
def tX12_isOtherSeats : List mI := [(0, .iconst 0, 1, 0, 0), (1, .istore_n 1, 1, 0, 0), (2, .iconst 0, 1, 0, 0), (3, .istore_n 2, 1, 0, 0), (4, .iload_n 2, 1, 0, 0), (5, .aload_n 0, 1, 0, 0), (6, .getfield 344, 3, 12, 37), (9, .if_icmp .ge 34, 3, 0, 0), (12, .iload_n 1, 1, 0, 0), (13, .ifCond .ne 18, 3, 0, 0), (16, .aload_n 0, 1, 0, 0), (17, .getfield 103, 3, 12, 54), (20, .iload_n 2, 1, 0, 0), (21, .iaload, 1, 0, 0), (22, .aload_n 0, 1, 0, 0), (23, .getfield 109, 3, 12, 56), (26, .iload_n 2, 1, 0, 0), (27, .iaload, 1, 0, 0), (28, .if_icmp .eq 7, 3, 0, 0), (31, .iconst 1, 1, 0, 0), (32, .goto 4, 3, 0, 0), (35, .iconst 0, 1, 0, 0), (36, .istore_n 1, 1, 0, 0), (37, .iinc 2 1, 3, 0, 0), (40, .goto (-36), 3, 0, 0), (43, .iload_n 1, 1, 0, 0), (44, .ireturn, 1, 0, 0)]
set_option maxRecDepth 100000 in
theorem kX12_isOtherSeats : mTok cX12_isOtherSeats RX12 3 false tX12_isOtherSeats := mTok_of (by decide +kernel) ⟨trivial, trivial, trivial, trivial, trivial, trivial, ⟨_, rfl, lfRX12_344⟩, trivial, trivial, trivial, trivial, ⟨_, rfl, lfRX12_103⟩, trivial, trivial, trivial, ⟨_, rfl, lfRX12_109⟩, trivial, trivial, trivial, trivial, trivial, trivial, trivial, trivial, trivial, trivial, trivial, trivial⟩
def tX12_stone : List mI := [(0, .iload_n 1, 1, 0, 0), (1, .iconst 1, 1, 0, 0), (2, .bipush 20, 2, 0, 0), (4, .invokestatic 362, 3, 0, 0), (7, .ifCond .eq 12, 3, 0, 0), (10, .iload_n 2, 1, 0, 0), (11, .iconst 0, 1, 0, 0), (12, .iconst 1, 1, 0, 0), (13, .invokestatic 362, 3, 0, 0), (16, .ifCond .ne 5, 3, 0, 0), (19, .iconst (-1), 1, 0, 0), (20, .ireturn, 1, 0, 0), (21, .aload_n 0, 1, 0, 0), (22, .invokevirtual 391, 3, 0, 0), (25, .aload_n 0, 1, 0, 0), (26, .iload_n 1, 1, 0, 0), (27, .iload_n 2, 1, 0, 0), (28, .invokevirtual 448, 3, 0, 0), (31, .aload_n 0, 1, 0, 0), (32, .invokevirtual 451, 3, 0, 0), (35, .iconst 0, 1, 0, 0), (36, .istore_n 3, 1, 0, 0), (37, .iconst 0, 1, 0, 0), (38, .istore 4, 2, 0, 0), (40, .iload 4, 2, 0, 0), (42, .aload_n 0, 1, 0, 0), (43, .getfield 344, 3, 12, 37), (46, .if_icmp .ge 50, 3, 0, 0), (49, .aload_n 0, 1, 0, 0), (50, .getfield 85, 3, 12, 42), (53, .iload 4, 2, 0, 0), (55, .dup2, 1, 0, 0), (56, .iaload, 1, 0, 0), (57, .iconst 1, 1, 0, 0), (58, .iadd, 1, 0, 0), (59, .iastore, 1, 0, 0), (60, .aload_n 0, 1, 0, 0), (61, .iload_n 1, 1, 0, 0), (62, .iload_n 2, 1, 0, 0), (63, .invokevirtual 448, 3, 0, 0), (66, .aload_n 0, 1, 0, 0), (67, .getfield 85, 3, 12, 42), (70, .iload 4, 2, 0, 0), (72, .dup2, 1, 0, 0), (73, .iaload, 1, 0, 0), (74, .iconst 1, 1, 0, 0), (75, .isub, 1, 0, 0), (76, .iastore, 1, 0, 0), (77, .iload_n 3, 1, 0, 0), (78, .aload_n 0, 1, 0, 0), (79, .invokevirtual 454, 3, 0, 0), (82, .invokestatic 307, 3, 0, 0), (85, .iload 4, 2, 0, 0), (87, .ishl, 1, 0, 0), (88, .ior, 1, 0, 0), (89, .istore_n 3, 1, 0, 0), (90, .iinc 4 1, 3, 0, 0), (93, .goto (-53), 3, 0, 0), (96, .iload_n 3, 1, 0, 0), (97, .ireturn, 1, 0, 0)]
set_option maxRecDepth 100000 in
theorem kX12_stone : mTok cX12_stone RX12 5 false tX12_stone := mTok_of (by decide +kernel) ⟨trivial, trivial, trivial, (fun z => by cases z), trivial, trivial, trivial, trivial, (fun z => by cases z), trivial, trivial, trivial, trivial, trivial, trivial, trivial, trivial, trivial, trivial, trivial, trivial, trivial, trivial, trivial, trivial, trivial, ⟨_, rfl, lfRX12_344⟩, trivial, trivial, ⟨_, rfl, lfRX12_85⟩, trivial, trivial, trivial, trivial, trivial, trivial, trivial, trivial, trivial, trivial, trivial, ⟨_, rfl, lfRX12_85⟩, trivial, trivial, trivial, trivial, trivial, trivial, trivial, trivial, trivial, (fun z => by cases z), trivial, trivial, trivial, trivial, trivial, trivial, trivial, trivial, trivial⟩
def tX12_loss : List mI := [(0, .iload_n 1, 1, 0, 0), (1, .iconst 0, 1, 0, 0), (2, .iconst 1, 1, 0, 0), (3, .invokestatic 362, 3, 0, 0), (6, .ifCond .ne 5, 3, 0, 0), (9, .iconst (-1), 1, 0, 0), (10, .ireturn, 1, 0, 0), (11, .aload_n 0, 1, 0, 0), (12, .invokevirtual 391, 3, 0, 0), (15, .aload_n 0, 1, 0, 0), (16, .iconst 1, 1, 0, 0), (17, .iconst 0, 1, 0, 0), (18, .invokevirtual 448, 3, 0, 0), (21, .iconst 2, 1, 0, 0), (22, .istore_n 2, 1, 0, 0), (23, .iload_n 2, 1, 0, 0), (24, .bipush 20, 2, 0, 0), (26, .if_icmp .gt 60, 3, 0, 0), (29, .aload_n 0, 1, 0, 0), (30, .invokevirtual 451, 3, 0, 0), (33, .aload_n 0, 1, 0, 0), (34, .iload_n 2, 1, 0, 0), (35, .iconst 0, 1, 0, 0), (36, .invokevirtual 448, 3, 0, 0), (39, .iconst 0, 1, 0, 0), (40, .istore_n 3, 1, 0, 0), (41, .iload_n 3, 1, 0, 0), (42, .aload_n 0, 1, 0, 0), (43, .getfield 344, 3, 12, 37), (46, .if_icmp .ge 34, 3, 0, 0), (49, .aload_n 0, 1, 0, 0), (50, .getfield 103, 3, 12, 54), (53, .iload_n 3, 1, 0, 0), (54, .iaload, 1, 0, 0), (55, .aload_n 0, 1, 0, 0), (56, .getfield 109, 3, 12, 56), (59, .iload_n 3, 1, 0, 0), (60, .iaload, 1, 0, 0), (61, .if_icmp .ge 13, 3, 0, 0), (64, .iload_n 1, 1, 0, 0), (65, .ifCond .ne 7, 3, 0, 0), (68, .iload_n 2, 1, 0, 0), (69, .goto 4, 3, 0, 0), (72, .iload_n 3, 1, 0, 0), (73, .ireturn, 1, 0, 0), (74, .iinc 3 1, 3, 0, 0), (77, .goto (-36), 3, 0, 0), (80, .iinc 2 1, 3, 0, 0), (83, .goto (-60), 3, 0, 0), (86, .iconst (-1), 1, 0, 0), (87, .ireturn, 1, 0, 0)]
set_option maxRecDepth 100000 in
theorem kX12_loss : mTok cX12_loss RX12 4 false tX12_loss := mTok_of (by decide +kernel) ⟨trivial, trivial, trivial, (fun z => by cases z), trivial, trivial, trivial, trivial, trivial, trivial, trivial, trivial, trivial, trivial, trivial, trivial, trivial, trivial, trivial, trivial, trivial, trivial, trivial, trivial, trivial, trivial, trivial, trivial, ⟨_, rfl, lfRX12_344⟩, trivial, trivial, ⟨_, rfl, lfRX12_103⟩, trivial, trivial, trivial, ⟨_, rfl, lfRX12_109⟩, trivial, trivial, trivial, trivial, trivial, trivial, trivial, trivial, trivial, trivial, trivial, trivial, trivial, trivial, trivial, trivial⟩
def tX12_draft : List mI := [(0, .aload_n 0, 1, 0, 0), (1, .iload_n 1, 1, 0, 0), (2, .invokevirtual 388, 3, 0, 0), (5, .ifCond .eq 22, 3, 0, 0), (8, .iload_n 2, 1, 0, 0), (9, .iconst 0, 1, 0, 0), (10, .bipush 35, 2, 0, 0), (12, .invokestatic 362, 3, 0, 0), (15, .ifCond .eq 12, 3, 0, 0), (18, .iload_n 2, 1, 0, 0), (19, .aload_n 0, 1, 0, 0), (20, .iconst 0, 1, 0, 0), (21, .invokevirtual 457, 3, 0, 0), (24, .if_icmp .le 5, 3, 0, 0), (27, .iconst (-1), 1, 0, 0), (28, .ireturn, 1, 0, 0), (29, .aload_n 0, 1, 0, 0), (30, .invokevirtual 391, 3, 0, 0), (33, .iconst 0, 1, 0, 0), (34, .istore_n 3, 1, 0, 0), (35, .iload_n 3, 1, 0, 0), (36, .iload_n 2, 1, 0, 0), (37, .if_icmp .ge 67, 3, 0, 0), (40, .iconst 0, 1, 0, 0), (41, .istore 4, 2, 0, 0), (43, .iconst 1, 1, 0, 0), (44, .istore 5, 2, 0, 0), (46, .iload 5, 2, 0, 0), (48, .aload_n 0, 1, 0, 0), (49, .getfield 344, 3, 12, 37), (52, .if_icmp .ge 35, 3, 0, 0), (55, .aload_n 0, 1, 0, 0), (56, .getfield 79, 3, 12, 40), (59, .iload 5, 2, 0, 0), (61, .iaload, 1, 0, 0), (62, .aload_n 0, 1, 0, 0), (63, .getfield 79, 3, 12, 40), (66, .iload 4, 2, 0, 0), (68, .iaload, 1, 0, 0), (69, .if_icmp .le 8, 3, 0, 0), (72, .iload 5, 2, 0, 0), (74, .goto 5, 3, 0, 0), (77, .iload 4, 2, 0, 0), (79, .istore 4, 2, 0, 0), (81, .iinc 5 1, 3, 0, 0), (84, .goto (-38), 3, 0, 0), (87, .aload_n 0, 1, 0, 0), (88, .getfield 79, 3, 12, 40), (91, .iload 4, 2, 0, 0), (93, .dup2, 1, 0, 0), (94, .iaload, 1, 0, 0), (95, .iconst 1, 1, 0, 0), (96, .isub, 1, 0, 0), (97, .iastore, 1, 0, 0), (98, .iinc 3 1, 3, 0, 0), (101, .goto (-66), 3, 0, 0), (104, .aload_n 0, 1, 0, 0), (105, .getfield 76, 3, 12, 39), (108, .iload_n 1, 1, 0, 0), (109, .iaload, 1, 0, 0), (110, .aload_n 0, 1, 0, 0), (111, .getfield 79, 3, 12, 40), (114, .iload_n 1, 1, 0, 0), (115, .iaload, 1, 0, 0), (116, .isub, 1, 0, 0), (117, .ireturn, 1, 0, 0)]
set_option maxRecDepth 100000 in
theorem kX12_draft : mTok cX12_draft RX12 6 false tX12_draft := mTok_of (by decide +kernel) ⟨trivial, trivial, trivial, trivial, trivial, trivial, trivial, (fun z => by cases z), trivial, trivial, trivial, trivial, trivial, trivial, trivial, trivial, trivial, trivial, trivial, trivial, trivial, trivial, trivial, trivial, trivial, trivial, trivial, trivial, trivial, ⟨_, rfl, lfRX12_344⟩, trivial, trivial, ⟨_, rfl, lfRX12_79⟩, trivial, trivial, trivial, ⟨_, rfl, lfRX12_79⟩, trivial, trivial, trivial, trivial, trivial, trivial, trivial, trivial, trivial, trivial, ⟨_, rfl, lfRX12_79⟩, trivial, trivial, trivial, trivial, trivial, trivial, trivial, trivial, trivial, ⟨_, rfl, lfRX12_76⟩, trivial, trivial, trivial, ⟨_, rfl, lfRX12_79⟩, trivial, trivial, trivial, trivial, trivial⟩
def tX12_layRoad : List mI := [(0, .iconst 0, 1, 0, 0), (1, .istore_n 1, 1, 0, 0), (2, .iload_n 1, 1, 0, 0), (3, .aload_n 0, 1, 0, 0), (4, .getfield 344, 3, 12, 37), (7, .if_icmp .ge 80, 3, 0, 0), (10, .iconst 0, 1, 0, 0), (11, .istore_n 2, 1, 0, 0), (12, .iconst 0, 1, 0, 0), (13, .istore_n 3, 1, 0, 0), (14, .iload_n 3, 1, 0, 0), (15, .aload_n 0, 1, 0, 0), (16, .getfield 344, 3, 12, 37), (19, .if_icmp .ge 55, 3, 0, 0), (22, .iload_n 2, 1, 0, 0), (23, .aload_n 0, 1, 0, 0), (24, .getfield 67, 3, 12, 32), (27, .iload_n 3, 1, 0, 0), (28, .iaload, 1, 0, 0), (29, .aload_n 0, 1, 0, 0), (30, .getfield 67, 3, 12, 32), (33, .iload_n 1, 1, 0, 0), (34, .iaload, 1, 0, 0), (35, .if_icmp .lt 23, 3, 0, 0), (38, .aload_n 0, 1, 0, 0), (39, .getfield 67, 3, 12, 32), (42, .iload_n 3, 1, 0, 0), (43, .iaload, 1, 0, 0), (44, .aload_n 0, 1, 0, 0), (45, .getfield 67, 3, 12, 32), (48, .iload_n 1, 1, 0, 0), (49, .iaload, 1, 0, 0), (50, .if_icmp .ne 12, 3, 0, 0), (53, .iload_n 3, 1, 0, 0), (54, .iload_n 1, 1, 0, 0), (55, .if_icmp .ge 7, 3, 0, 0), (58, .iconst 1, 1, 0, 0), (59, .goto 4, 3, 0, 0), (62, .iconst 0, 1, 0, 0), (63, .invokestatic 307, 3, 0, 0), (66, .iadd, 1, 0, 0), (67, .istore_n 2, 1, 0, 0), (68, .iinc 3 1, 3, 0, 0), (71, .goto (-57), 3, 0, 0), (74, .aload_n 0, 1, 0, 0), (75, .getfield 112, 3, 12, 57), (78, .iload_n 2, 1, 0, 0), (79, .iload_n 1, 1, 0, 0), (80, .iastore, 1, 0, 0), (81, .iinc 1 1, 3, 0, 0), (84, .goto (-82), 3, 0, 0), (87, .return_, 1, 0, 0)]
set_option maxRecDepth 100000 in
theorem kX12_layRoad : mTok cX12_layRoad RX12 4 false tX12_layRoad := mTok_of (by decide +kernel) ⟨trivial, trivial, trivial, trivial, ⟨_, rfl, lfRX12_344⟩, trivial, trivial, trivial, trivial, trivial, trivial, trivial, ⟨_, rfl, lfRX12_344⟩, trivial, trivial, trivial, ⟨_, rfl, lfRX12_67⟩, trivial, trivial, trivial, ⟨_, rfl, lfRX12_67⟩, trivial, trivial, trivial, trivial, ⟨_, rfl, lfRX12_67⟩, trivial, trivial, trivial, ⟨_, rfl, lfRX12_67⟩, trivial, trivial, trivial, trivial, trivial, trivial, trivial, trivial, trivial, (fun z => by cases z), trivial, trivial, trivial, trivial, trivial, ⟨_, rfl, lfRX12_112⟩, trivial, trivial, trivial, trivial, trivial, trivial, trivial⟩
def tX12_moved : List mI := [(0, .aload_n 0, 1, 0, 0), (1, .getfield 344, 3, 12, 37), (4, .iconst 1, 1, 0, 0), (5, .if_icmp .ne 5, 3, 0, 0), (8, .iload_n 1, 1, 0, 0), (9, .ireturn, 1, 0, 0), (10, .iconst 0, 1, 0, 0), (11, .istore_n 2, 1, 0, 0), (12, .iconst 0, 1, 0, 0), (13, .istore_n 3, 1, 0, 0), (14, .iload_n 3, 1, 0, 0), (15, .aload_n 0, 1, 0, 0), (16, .getfield 344, 3, 12, 37), (19, .if_icmp .ge 65, 3, 0, 0), (22, .iload_n 1, 1, 0, 0), (23, .aload_n 0, 1, 0, 0), (24, .getfield 112, 3, 12, 57), (27, .iload_n 3, 1, 0, 0), (28, .iaload, 1, 0, 0), (29, .ishr, 1, 0, 0), (30, .iconst 1, 1, 0, 0), (31, .iand, 1, 0, 0), (32, .ifCond .ne 6, 3, 0, 0), (35, .goto 43, 3, 0, 0), (38, .iload_n 3, 1, 0, 0), (39, .ifCond .le 16, 3, 0, 0), (42, .iload_n 2, 1, 0, 0), (43, .iconst 1, 1, 0, 0), (44, .aload_n 0, 1, 0, 0), (45, .getfield 112, 3, 12, 57), (48, .iload_n 3, 1, 0, 0), (49, .iconst 1, 1, 0, 0), (50, .isub, 1, 0, 0), (51, .iaload, 1, 0, 0), (52, .ishl, 1, 0, 0), (53, .ior, 1, 0, 0), (54, .istore_n 2, 1, 0, 0), (55, .iload_n 3, 1, 0, 0), (56, .iconst 1, 1, 0, 0), (57, .iadd, 1, 0, 0), (58, .aload_n 0, 1, 0, 0), (59, .getfield 344, 3, 12, 37), (62, .if_icmp .ge 16, 3, 0, 0), (65, .iload_n 2, 1, 0, 0), (66, .iconst 1, 1, 0, 0), (67, .aload_n 0, 1, 0, 0), (68, .getfield 112, 3, 12, 57), (71, .iload_n 3, 1, 0, 0), (72, .iconst 1, 1, 0, 0), (73, .iadd, 1, 0, 0), (74, .iaload, 1, 0, 0), (75, .ishl, 1, 0, 0), (76, .ior, 1, 0, 0), (77, .istore_n 2, 1, 0, 0), (78, .iinc 3 1, 3, 0, 0), (81, .goto (-67), 3, 0, 0), (84, .iload_n 2, 1, 0, 0), (85, .ireturn, 1, 0, 0)]
set_option maxRecDepth 100000 in
theorem kX12_moved : mTok cX12_moved RX12 4 false tX12_moved := mTok_of (by decide +kernel) ⟨trivial, ⟨_, rfl, lfRX12_344⟩, trivial, trivial, trivial, trivial, trivial, trivial, trivial, trivial, trivial, trivial, ⟨_, rfl, lfRX12_344⟩, trivial, trivial, trivial, ⟨_, rfl, lfRX12_112⟩, trivial, trivial, trivial, trivial, trivial, trivial, trivial, trivial, trivial, trivial, trivial, trivial, ⟨_, rfl, lfRX12_112⟩, trivial, trivial, trivial, trivial, trivial, trivial, trivial, trivial, trivial, trivial, trivial, ⟨_, rfl, lfRX12_344⟩, trivial, trivial, trivial, trivial, ⟨_, rfl, lfRX12_112⟩, trivial, trivial, trivial, trivial, trivial, trivial, trivial, trivial, trivial, trivial, trivial, trivial⟩
def tX12_chase : List mI := [(0, .aload_n 0, 1, 0, 0), (1, .iconst 0, 1, 0, 0), (2, .putfield 359, 3, 12, 51), (5, .aload_n 0, 1, 0, 0), (6, .getfield 344, 3, 12, 37), (9, .ifCond .ne 5, 3, 0, 0), (12, .iconst (-1), 1, 0, 0), (13, .ireturn, 1, 0, 0), (14, .aload_n 0, 1, 0, 0), (15, .invokevirtual 460, 3, 0, 0), (18, .iconst 1, 1, 0, 0), (19, .aload_n 0, 1, 0, 0), (20, .getfield 344, 3, 12, 37), (23, .ishl, 1, 0, 0), (24, .iconst 1, 1, 0, 0), (25, .isub, 1, 0, 0), (26, .istore_n 1, 1, 0, 0), (27, .iconst 0, 1, 0, 0), (28, .istore_n 2, 1, 0, 0), (29, .iload_n 2, 1, 0, 0), (30, .bipush 32, 2, 0, 0), (32, .if_icmp .ge 16, 3, 0, 0), (35, .aload_n 0, 1, 0, 0), (36, .getfield 118, 3, 12, 59), (39, .iload_n 2, 1, 0, 0), (40, .iconst (-1), 1, 0, 0), (41, .iastore, 1, 0, 0), (42, .iinc 2 1, 3, 0, 0), (45, .goto (-16), 3, 0, 0), (48, .aload_n 0, 1, 0, 0), (49, .getfield 118, 3, 12, 59), (52, .iload_n 1, 1, 0, 0), (53, .iconst 5, 1, 0, 0), (54, .iastore, 1, 0, 0), (55, .aload_n 0, 1, 0, 0), (56, .getfield 121, 3, 12, 60), (59, .iconst 0, 1, 0, 0), (60, .iload_n 1, 1, 0, 0), (61, .iastore, 1, 0, 0), (62, .iconst 1, 1, 0, 0), (63, .istore_n 2, 1, 0, 0), (64, .iconst 0, 1, 0, 0), (65, .istore_n 3, 1, 0, 0), (66, .iload_n 3, 1, 0, 0), (67, .iload_n 2, 1, 0, 0), (68, .if_icmp .ge 114, 3, 0, 0), (71, .aload_n 0, 1, 0, 0), (72, .getfield 118, 3, 12, 59), (75, .iconst 0, 1, 0, 0), (76, .iaload, 1, 0, 0), (77, .ifCond .ge 105, 3, 0, 0), (80, .iconst 0, 1, 0, 0), (81, .istore 4, 2, 0, 0), (83, .iload 4, 2, 0, 0), (85, .aload_n 0, 1, 0, 0), (86, .getfield 344, 3, 12, 37), (89, .if_icmp .ge 87, 3, 0, 0), (92, .aload_n 0, 1, 0, 0), (93, .getfield 118, 3, 12, 59), (96, .iconst 0, 1, 0, 0), (97, .iaload, 1, 0, 0), (98, .ifCond .ge 78, 3, 0, 0), (101, .aload_n 0, 1, 0, 0), (102, .getfield 121, 3, 12, 60), (105, .iload_n 3, 1, 0, 0), (106, .iaload, 1, 0, 0), (107, .iconst 1, 1, 0, 0), (108, .iload 4, 2, 0, 0), (110, .ishl, 1, 0, 0), (111, .iconst (-1), 1, 0, 0), (112, .ixor, 1, 0, 0), (113, .iand, 1, 0, 0), (114, .istore 5, 2, 0, 0), (116, .aload_n 0, 1, 0, 0), (117, .iload 5, 2, 0, 0), (119, .invokevirtual 463, 3, 0, 0), (122, .istore 6, 2, 0, 0), (124, .aload_n 0, 1, 0, 0), (125, .getfield 118, 3, 12, 59), (128, .iload 6, 2, 0, 0), (130, .iaload, 1, 0, 0), (131, .ifCond .lt 6, 3, 0, 0), (134, .goto 36, 3, 0, 0), (137, .aload_n 0, 1, 0, 0), (138, .getfield 115, 3, 12, 58), (141, .iload 6, 2, 0, 0), (143, .aload_n 0, 1, 0, 0), (144, .getfield 121, 3, 12, 60), (147, .iload_n 3, 1, 0, 0), (148, .iaload, 1, 0, 0), (149, .iastore, 1, 0, 0), (150, .aload_n 0, 1, 0, 0), (151, .getfield 118, 3, 12, 59), (154, .iload 6, 2, 0, 0), (156, .iload 4, 2, 0, 0), (158, .iastore, 1, 0, 0), (159, .aload_n 0, 1, 0, 0), (160, .getfield 121, 3, 12, 60), (163, .iload_n 2, 1, 0, 0), (164, .iload 6, 2, 0, 0), (166, .iastore, 1, 0, 0), (167, .iinc 2 1, 3, 0, 0), (170, .iinc 4 1, 3, 0, 0), (173, .goto (-90), 3, 0, 0), (176, .iinc 3 1, 3, 0, 0), (179, .goto (-113), 3, 0, 0), (182, .aload_n 0, 1, 0, 0), (183, .getfield 118, 3, 12, 59), (186, .iconst 0, 1, 0, 0), (187, .iaload, 1, 0, 0), (188, .ifCond .ge 5, 3, 0, 0), (191, .iconst (-1), 1, 0, 0), (192, .ireturn, 1, 0, 0), (193, .iconst 0, 1, 0, 0), (194, .istore_n 3, 1, 0, 0), (195, .iconst 0, 1, 0, 0), (196, .istore 4, 2, 0, 0), (198, .iload 4, 2, 0, 0), (200, .iload_n 1, 1, 0, 0), (201, .if_icmp .eq 18, 3, 0, 0), (204, .iinc 3 1, 3, 0, 0), (207, .aload_n 0, 1, 0, 0), (208, .getfield 115, 3, 12, 58), (211, .iload 4, 2, 0, 0), (213, .iaload, 1, 0, 0), (214, .istore 4, 2, 0, 0), (216, .goto (-18), 3, 0, 0), (219, .iconst 0, 1, 0, 0), (220, .istore 4, 2, 0, 0), (222, .iload_n 3, 1, 0, 0), (223, .iconst 1, 1, 0, 0), (224, .isub, 1, 0, 0), (225, .istore 5, 2, 0, 0), (227, .iload 5, 2, 0, 0), (229, .ifCond .lt 32, 3, 0, 0), (232, .aload_n 0, 1, 0, 0), (233, .getfield 97, 3, 12, 50), (236, .iload 5, 2, 0, 0), (238, .aload_n 0, 1, 0, 0), (239, .getfield 118, 3, 12, 59), (242, .iload 4, 2, 0, 0), (244, .iaload, 1, 0, 0), (245, .iastore, 1, 0, 0), (246, .aload_n 0, 1, 0, 0), (247, .getfield 115, 3, 12, 58), (250, .iload 4, 2, 0, 0), (252, .iaload, 1, 0, 0), (253, .istore 4, 2, 0, 0), (255, .iinc 5 (-1), 3, 0, 0), (258, .goto (-31), 3, 0, 0), (261, .aload_n 0, 1, 0, 0), (262, .iload_n 3, 1, 0, 0), (263, .putfield 359, 3, 12, 51), (266, .iload_n 3, 1, 0, 0), (267, .ireturn, 1, 0, 0)]
set_option maxRecDepth 100000 in
theorem kX12_chase : mTok cX12_chase RX12 7 false tX12_chase := mTok_of (by decide +kernel) ⟨trivial, trivial, ⟨_, rfl, lfRX12_359, (fun z => by cases z)⟩, trivial, ⟨_, rfl, lfRX12_344⟩, trivial, trivial, trivial, trivial, trivial, trivial, trivial, ⟨_, rfl, lfRX12_344⟩, trivial, trivial, trivial, trivial, trivial, trivial, trivial, trivial, trivial, trivial, ⟨_, rfl, lfRX12_118⟩, trivial, trivial, trivial, trivial, trivial, trivial, ⟨_, rfl, lfRX12_118⟩, trivial, trivial, trivial, trivial, ⟨_, rfl, lfRX12_121⟩, trivial, trivial, trivial, trivial, trivial, trivial, trivial, trivial, trivial, trivial, trivial, ⟨_, rfl, lfRX12_118⟩, trivial, trivial, trivial, trivial, trivial, trivial, trivial, ⟨_, rfl, lfRX12_344⟩, trivial, trivial, ⟨_, rfl, lfRX12_118⟩, trivial, trivial, trivial, trivial, ⟨_, rfl, lfRX12_121⟩, trivial, trivial, trivial, trivial, trivial, trivial, trivial, trivial, trivial, trivial, trivial, trivial, trivial, trivial, ⟨_, rfl, lfRX12_118⟩, trivial, trivial, trivial, trivial, trivial, ⟨_, rfl, lfRX12_115⟩, trivial, trivial, ⟨_, rfl, lfRX12_121⟩, trivial, trivial, trivial, trivial, ⟨_, rfl, lfRX12_118⟩, trivial, trivial, trivial, trivial, ⟨_, rfl, lfRX12_121⟩, trivial, trivial, trivial, trivial, trivial, trivial, trivial, trivial, trivial, ⟨_, rfl, lfRX12_118⟩, trivial, trivial, trivial, trivial, trivial, trivial, trivial, trivial, trivial, trivial, trivial, trivial, trivial, trivial, ⟨_, rfl, lfRX12_115⟩, trivial, trivial, trivial, trivial, trivial, trivial, trivial, trivial, trivial, trivial, trivial, trivial, trivial, ⟨_, rfl, lfRX12_97⟩, trivial, trivial, ⟨_, rfl, lfRX12_118⟩, trivial, trivial, trivial, trivial, ⟨_, rfl, lfRX12_115⟩, trivial, trivial, trivial, trivial, trivial, trivial, trivial, ⟨_, rfl, lfRX12_359, (fun z => by cases z)⟩, trivial, trivial, trivial⟩
def tX12_marks : List mI := [(0, .iload_n 1, 1, 0, 0), (1, .iconst 0, 1, 0, 0), (2, .bipush 60, 2, 0, 0), (4, .invokestatic 362, 3, 0, 0), (7, .ifCond .eq 27, 3, 0, 0), (10, .iload_n 2, 1, 0, 0), (11, .iconst 0, 1, 0, 0), (12, .bipush 60, 2, 0, 0), (14, .invokestatic 362, 3, 0, 0), (17, .ifCond .eq 17, 3, 0, 0), (20, .iload_n 3, 1, 0, 0), (21, .iconst 0, 1, 0, 0), (22, .iload_n 1, 1, 0, 0), (23, .invokestatic 362, 3, 0, 0), (26, .ifCond .eq 8, 3, 0, 0), (29, .iload_n 3, 1, 0, 0), (30, .iload_n 2, 1, 0, 0), (31, .if_icmp .le 5, 3, 0, 0), (34, .iconst (-1), 1, 0, 0), (35, .ireturn, 1, 0, 0), (36, .iload_n 1, 1, 0, 0), (37, .iload_n 2, 1, 0, 0), (38, .iadd, 1, 0, 0), (39, .iload_n 3, 1, 0, 0), (40, .isub, 1, 0, 0), (41, .istore 4, 2, 0, 0), (43, .iload 4, 2, 0, 0), (45, .sipush 200, 3, 0, 0), (48, .if_icmp .ge 21, 3, 0, 0), (51, .iload 4, 2, 0, 0), (53, .iconst 1, 1, 0, 0), (54, .iadd, 1, 0, 0), (55, .iload_n 3, 1, 0, 0), (56, .imul, 1, 0, 0), (57, .iload_n 1, 1, 0, 0), (58, .iload_n 2, 1, 0, 0), (59, .imul, 1, 0, 0), (60, .if_icmp .ge 9, 3, 0, 0), (63, .iinc 4 1, 3, 0, 0), (66, .goto (-23), 3, 0, 0), (69, .iload 4, 2, 0, 0), (71, .ireturn, 1, 0, 0)]
set_option maxRecDepth 100000 in
theorem kX12_marks : mTok cX12_marks RX12 5 false tX12_marks := mTok_of (by decide +kernel) ⟨trivial, trivial, trivial, (fun z => by cases z), trivial, trivial, trivial, trivial, (fun z => by cases z), trivial, trivial, trivial, trivial, (fun z => by cases z), trivial, trivial, trivial, trivial, trivial, trivial, trivial, trivial, trivial, trivial, trivial, trivial, trivial, trivial, trivial, trivial, trivial, trivial, trivial, trivial, trivial, trivial, trivial, trivial, trivial, trivial, trivial, trivial, trivial⟩
def tX12_lies : List mI := [(0, .iload_n 1, 1, 0, 0), (1, .iconst 0, 1, 0, 0), (2, .aload_n 0, 1, 0, 0), (3, .getfield 359, 3, 12, 51), (6, .iconst 1, 1, 0, 0), (7, .isub, 1, 0, 0), (8, .invokestatic 362, 3, 0, 0), (11, .ifCond .eq 12, 3, 0, 0), (14, .aload_n 0, 1, 0, 0), (15, .getfield 97, 3, 12, 50), (18, .iload_n 1, 1, 0, 0), (19, .iaload, 1, 0, 0), (20, .goto 4, 3, 0, 0), (23, .iconst (-1), 1, 0, 0), (24, .ireturn, 1, 0, 0)]
set_option maxRecDepth 100000 in
theorem kX12_lies : mTok cX12_lies RX12 2 false tX12_lies := mTok_of (by decide +kernel) ⟨trivial, trivial, trivial, ⟨_, rfl, lfRX12_359⟩, trivial, trivial, (fun z => by cases z), trivial, trivial, ⟨_, rfl, lfRX12_97⟩, trivial, trivial, trivial, trivial, trivial, trivial⟩
def tX12_report : List mI := [(0, .iload_n 1, 1, 0, 0), (1, .iconst 1, 1, 0, 0), (2, .iconst 1, 1, 0, 0), (3, .aload_n 0, 1, 0, 0), (4, .getfield 344, 3, 12, 37), (7, .ishl, 1, 0, 0), (8, .iconst 1, 1, 0, 0), (9, .isub, 1, 0, 0), (10, .invokestatic 362, 3, 0, 0), (13, .ifCond .eq 32, 3, 0, 0), (16, .iload_n 2, 1, 0, 0), (17, .iconst 0, 1, 0, 0), (18, .bipush 35, 2, 0, 0), (20, .invokestatic 362, 3, 0, 0), (23, .ifCond .eq 22, 3, 0, 0), (26, .iload_n 3, 1, 0, 0), (27, .iload_n 2, 1, 0, 0), (28, .bipush 35, 2, 0, 0), (30, .invokestatic 362, 3, 0, 0), (33, .ifCond .eq 12, 3, 0, 0), (36, .aload_n 0, 1, 0, 0), (37, .getfield 356, 3, 12, 66), (40, .bipush 30, 2, 0, 0), (42, .if_icmp .ne 5, 3, 0, 0), (45, .iconst (-1), 1, 0, 0), (46, .ireturn, 1, 0, 0), (47, .aload_n 0, 1, 0, 0), (48, .getfield 124, 3, 12, 61), (51, .aload_n 0, 1, 0, 0), (52, .getfield 356, 3, 12, 66), (55, .iload_n 1, 1, 0, 0), (56, .iastore, 1, 0, 0), (57, .aload_n 0, 1, 0, 0), (58, .getfield 127, 3, 12, 62), (61, .aload_n 0, 1, 0, 0), (62, .getfield 356, 3, 12, 66), (65, .iload_n 2, 1, 0, 0), (66, .iastore, 1, 0, 0), (67, .aload_n 0, 1, 0, 0), (68, .getfield 130, 3, 12, 63), (71, .aload_n 0, 1, 0, 0), (72, .getfield 356, 3, 12, 66), (75, .iload_n 3, 1, 0, 0), (76, .iastore, 1, 0, 0), (77, .aload_n 0, 1, 0, 0), (78, .getfield 133, 3, 12, 64), (81, .aload_n 0, 1, 0, 0), (82, .getfield 356, 3, 12, 66), (85, .aload_n 0, 1, 0, 0), (86, .getfield 466, 3, 12, 67), (89, .iastore, 1, 0, 0), (90, .aload_n 0, 1, 0, 0), (91, .getfield 136, 3, 12, 65), (94, .aload_n 0, 1, 0, 0), (95, .getfield 356, 3, 12, 66), (98, .iconst (-1), 1, 0, 0), (99, .iastore, 1, 0, 0), (100, .aload_n 0, 1, 0, 0), (101, .dup, 1, 0, 0), (102, .getfield 356, 3, 12, 66), (105, .iconst 1, 1, 0, 0), (106, .iadd, 1, 0, 0), (107, .putfield 356, 3, 12, 66), (110, .aload_n 0, 1, 0, 0), (111, .getfield 356, 3, 12, 66), (114, .iconst 1, 1, 0, 0), (115, .isub, 1, 0, 0), (116, .ireturn, 1, 0, 0)]
set_option maxRecDepth 100000 in
theorem kX12_report : mTok cX12_report RX12 4 false tX12_report := mTok_of (by decide +kernel) ⟨trivial, trivial, trivial, trivial, ⟨_, rfl, lfRX12_344⟩, trivial, trivial, trivial, (fun z => by cases z), trivial, trivial, trivial, trivial, (fun z => by cases z), trivial, trivial, trivial, trivial, (fun z => by cases z), trivial, trivial, ⟨_, rfl, lfRX12_356⟩, trivial, trivial, trivial, trivial, trivial, ⟨_, rfl, lfRX12_124⟩, trivial, ⟨_, rfl, lfRX12_356⟩, trivial, trivial, trivial, ⟨_, rfl, lfRX12_127⟩, trivial, ⟨_, rfl, lfRX12_356⟩, trivial, trivial, trivial, ⟨_, rfl, lfRX12_130⟩, trivial, ⟨_, rfl, lfRX12_356⟩, trivial, trivial, trivial, ⟨_, rfl, lfRX12_133⟩, trivial, ⟨_, rfl, lfRX12_356⟩, trivial, ⟨_, rfl, lfRX12_466⟩, trivial, trivial, ⟨_, rfl, lfRX12_136⟩, trivial, ⟨_, rfl, lfRX12_356⟩, trivial, trivial, trivial, trivial, ⟨_, rfl, lfRX12_356⟩, trivial, trivial, ⟨_, rfl, lfRX12_356, (fun z => by cases z)⟩, trivial, ⟨_, rfl, lfRX12_356⟩, trivial, trivial, trivial, trivial⟩
def tX12_untell : List mI := [(0, .iload_n 1, 1, 0, 0), (1, .iconst 0, 1, 0, 0), (2, .aload_n 0, 1, 0, 0), (3, .getfield 356, 3, 12, 66), (6, .iconst 1, 1, 0, 0), (7, .isub, 1, 0, 0), (8, .invokestatic 362, 3, 0, 0), (11, .ifCond .eq 12, 3, 0, 0), (14, .aload_n 0, 1, 0, 0), (15, .getfield 136, 3, 12, 65), (18, .iload_n 1, 1, 0, 0), (19, .iaload, 1, 0, 0), (20, .ifCond .lt 5, 3, 0, 0), (23, .iconst 0, 1, 0, 0), (24, .ireturn, 1, 0, 0), (25, .aload_n 0, 1, 0, 0), (26, .getfield 136, 3, 12, 65), (29, .iload_n 1, 1, 0, 0), (30, .aload_n 0, 1, 0, 0), (31, .getfield 466, 3, 12, 67), (34, .iastore, 1, 0, 0), (35, .iconst 1, 1, 0, 0), (36, .ireturn, 1, 0, 0)]
set_option maxRecDepth 100000 in
theorem kX12_untell : mTok cX12_untell RX12 2 false tX12_untell := mTok_of (by decide +kernel) ⟨trivial, trivial, trivial, ⟨_, rfl, lfRX12_356⟩, trivial, trivial, (fun z => by cases z), trivial, trivial, ⟨_, rfl, lfRX12_136⟩, trivial, trivial, trivial, trivial, trivial, trivial, ⟨_, rfl, lfRX12_136⟩, trivial, trivial, ⟨_, rfl, lfRX12_466⟩, trivial, trivial, trivial, trivial⟩
def tX12_later : List mI := [(0, .iload_n 1, 1, 0, 0), (1, .ifCond .lt 22, 3, 0, 0), (4, .iload_n 1, 1, 0, 0), (5, .sipush 1000, 3, 0, 0), (8, .if_icmp .gt 15, 3, 0, 0), (11, .aload_n 0, 1, 0, 0), (12, .getfield 466, 3, 12, 67), (15, .iload_n 1, 1, 0, 0), (16, .iadd, 1, 0, 0), (17, .ldc_w 469, 3, 100000, 0), (20, .if_icmp .le 5, 3, 0, 0), (23, .iconst (-1), 1, 0, 0), (24, .ireturn, 1, 0, 0), (25, .aload_n 0, 1, 0, 0), (26, .dup, 1, 0, 0), (27, .getfield 466, 3, 12, 67), (30, .iload_n 1, 1, 0, 0), (31, .iadd, 1, 0, 0), (32, .putfield 466, 3, 12, 67), (35, .aload_n 0, 1, 0, 0), (36, .getfield 466, 3, 12, 67), (39, .ireturn, 1, 0, 0)]
set_option maxRecDepth 100000 in
theorem kX12_later : mTok cX12_later RX12 2 false tX12_later := mTok_of (by decide +kernel) ⟨trivial, trivial, trivial, trivial, trivial, trivial, ⟨_, rfl, lfRX12_466⟩, trivial, trivial, lcRX12_469, trivial, trivial, trivial, trivial, trivial, ⟨_, rfl, lfRX12_466⟩, trivial, trivial, ⟨_, rfl, lfRX12_466, (fun z => by cases z)⟩, trivial, ⟨_, rfl, lfRX12_466⟩, trivial, trivial⟩
def tX12_headOf : List mI := [(0, .iload_n 1, 1, 0, 0), (1, .iconst 3, 1, 0, 0), (2, .aload_n 0, 1, 0, 0), (3, .getfield 344, 3, 12, 37), (6, .iconst 1, 1, 0, 0), (7, .isub, 1, 0, 0), (8, .iload_n 2, 1, 0, 0), (9, .isub, 1, 0, 0), (10, .imul, 1, 0, 0), (11, .ishr, 1, 0, 0), (12, .bipush 7, 2, 0, 0), (14, .iand, 1, 0, 0), (15, .ireturn, 1, 0, 0)]
set_option maxRecDepth 100000 in
theorem kX12_headOf : mTok cX12_headOf RX12 3 false tX12_headOf := mTok_of (by decide +kernel) ⟨trivial, trivial, trivial, ⟨_, rfl, lfRX12_344⟩, trivial, trivial, trivial, trivial, trivial, trivial, trivial, trivial, trivial, trivial⟩
def tX12_liarsOf : List mI := [(0, .iconst 0, 1, 0, 0), (1, .istore 4, 2, 0, 0), (3, .iconst 0, 1, 0, 0), (4, .istore 5, 2, 0, 0), (6, .iload 5, 2, 0, 0), (8, .aload_n 0, 1, 0, 0), (9, .getfield 356, 3, 12, 66), (12, .if_icmp .ge 136, 3, 0, 0), (15, .iload 4, 2, 0, 0), (17, .iload_n 3, 1, 0, 0), (18, .if_icmp .gt 130, 3, 0, 0), (21, .aload_n 0, 1, 0, 0), (22, .getfield 133, 3, 12, 64), (25, .iload 5, 2, 0, 0), (27, .iaload, 1, 0, 0), (28, .iload_n 2, 1, 0, 0), (29, .if_icmp .gt 113, 3, 0, 0), (32, .aload_n 0, 1, 0, 0), (33, .getfield 136, 3, 12, 65), (36, .iload 5, 2, 0, 0), (38, .iaload, 1, 0, 0), (39, .ifCond .lt 17, 3, 0, 0), (42, .aload_n 0, 1, 0, 0), (43, .getfield 136, 3, 12, 65), (46, .iload 5, 2, 0, 0), (48, .iaload, 1, 0, 0), (49, .iload_n 2, 1, 0, 0), (50, .if_icmp .gt 6, 3, 0, 0), (53, .goto 89, 3, 0, 0), (56, .iconst 0, 1, 0, 0), (57, .istore 6, 2, 0, 0), (59, .iconst 0, 1, 0, 0), (60, .istore 7, 2, 0, 0), (62, .iload 7, 2, 0, 0), (64, .aload_n 0, 1, 0, 0), (65, .getfield 344, 3, 12, 37), (68, .if_icmp .ge 37, 3, 0, 0), (71, .aload_n 0, 1, 0, 0), (72, .getfield 124, 3, 12, 61), (75, .iload 5, 2, 0, 0), (77, .iaload, 1, 0, 0), (78, .iload 7, 2, 0, 0), (80, .ishr, 1, 0, 0), (81, .iconst 1, 1, 0, 0), (82, .iand, 1, 0, 0), (83, .iconst 1, 1, 0, 0), (84, .if_icmp .ne 15, 3, 0, 0), (87, .iload 6, 2, 0, 0), (89, .aload_n 0, 1, 0, 0), (90, .iload_n 1, 1, 0, 0), (91, .iload 7, 2, 0, 0), (93, .invokevirtual 470, 3, 0, 0), (96, .iadd, 1, 0, 0), (97, .istore 6, 2, 0, 0), (99, .iinc 7 1, 3, 0, 0), (102, .goto (-40), 3, 0, 0), (105, .iload 4, 2, 0, 0), (107, .iload 6, 2, 0, 0), (109, .aload_n 0, 1, 0, 0), (110, .getfield 127, 3, 12, 62), (113, .iload 5, 2, 0, 0), (115, .iaload, 1, 0, 0), (116, .if_icmp .lt 15, 3, 0, 0), (119, .iload 6, 2, 0, 0), (121, .aload_n 0, 1, 0, 0), (122, .getfield 130, 3, 12, 63), (125, .iload 5, 2, 0, 0), (127, .iaload, 1, 0, 0), (128, .if_icmp .le 7, 3, 0, 0), (131, .iconst 1, 1, 0, 0), (132, .goto 4, 3, 0, 0), (135, .iconst 0, 1, 0, 0), (136, .invokestatic 307, 3, 0, 0), (139, .iadd, 1, 0, 0), (140, .istore 4, 2, 0, 0), (142, .iinc 5 1, 3, 0, 0), (145, .goto (-139), 3, 0, 0), (148, .iload 4, 2, 0, 0), (150, .ireturn, 1, 0, 0)]
set_option maxRecDepth 100000 in
theorem kX12_liarsOf : mTok cX12_liarsOf RX12 8 false tX12_liarsOf := mTok_of (by decide +kernel) ⟨trivial, trivial, trivial, trivial, trivial, trivial, ⟨_, rfl, lfRX12_356⟩, trivial, trivial, trivial, trivial, trivial, ⟨_, rfl, lfRX12_133⟩, trivial, trivial, trivial, trivial, trivial, ⟨_, rfl, lfRX12_136⟩, trivial, trivial, trivial, trivial, ⟨_, rfl, lfRX12_136⟩, trivial, trivial, trivial, trivial, trivial, trivial, trivial, trivial, trivial, trivial, trivial, ⟨_, rfl, lfRX12_344⟩, trivial, trivial, ⟨_, rfl, lfRX12_124⟩, trivial, trivial, trivial, trivial, trivial, trivial, trivial, trivial, trivial, trivial, trivial, trivial, trivial, trivial, trivial, trivial, trivial, trivial, trivial, trivial, ⟨_, rfl, lfRX12_127⟩, trivial, trivial, trivial, trivial, trivial, ⟨_, rfl, lfRX12_130⟩, trivial, trivial, trivial, trivial, trivial, trivial, (fun z => by cases z), trivial, trivial, trivial, trivial, trivial, trivial, trivial⟩
def tX12_layTruths : List mI := [(0, .iconst 0, 1, 0, 0), (1, .istore_n 2, 1, 0, 0), (2, .iload_n 2, 1, 0, 0), (3, .bipush 40, 2, 0, 0), (5, .if_icmp .ge 16, 3, 0, 0), (8, .aload_n 0, 1, 0, 0), (9, .getfield 139, 3, 12, 68), (12, .iload_n 2, 1, 0, 0), (13, .iconst 0, 1, 0, 0), (14, .iastore, 1, 0, 0), (15, .iinc 2 1, 3, 0, 0), (18, .goto (-16), 3, 0, 0), (21, .aload_n 0, 1, 0, 0), (22, .iconst 0, 1, 0, 0), (23, .putfield 473, 3, 12, 69), (26, .aload_n 0, 1, 0, 0), (27, .invokevirtual 430, 3, 0, 0), (30, .istore_n 2, 1, 0, 0), (31, .iconst 0, 1, 0, 0), (32, .istore_n 3, 1, 0, 0), (33, .iload_n 3, 1, 0, 0), (34, .iload_n 2, 1, 0, 0), (35, .if_icmp .ge 72, 3, 0, 0), (38, .aload_n 0, 1, 0, 0), (39, .iload_n 3, 1, 0, 0), (40, .iload_n 1, 1, 0, 0), (41, .iconst 0, 1, 0, 0), (42, .invokevirtual 476, 3, 0, 0), (45, .ifCond .le 6, 3, 0, 0), (48, .goto 53, 3, 0, 0), (51, .aload_n 0, 1, 0, 0), (52, .dup, 1, 0, 0), (53, .getfield 473, 3, 12, 69), (56, .iconst 1, 1, 0, 0), (57, .iadd, 1, 0, 0), (58, .putfield 473, 3, 12, 69), (61, .iconst 0, 1, 0, 0), (62, .istore 4, 2, 0, 0), (64, .iload 4, 2, 0, 0), (66, .aload_n 0, 1, 0, 0), (67, .getfield 344, 3, 12, 37), (70, .if_icmp .ge 31, 3, 0, 0), (73, .aload_n 0, 1, 0, 0), (74, .getfield 139, 3, 12, 68), (77, .bipush 8, 2, 0, 0), (79, .iload 4, 2, 0, 0), (81, .imul, 1, 0, 0), (82, .aload_n 0, 1, 0, 0), (83, .iload_n 3, 1, 0, 0), (84, .iload 4, 2, 0, 0), (86, .invokevirtual 470, 3, 0, 0), (89, .iadd, 1, 0, 0), (90, .dup2, 1, 0, 0), (91, .iaload, 1, 0, 0), (92, .iconst 1, 1, 0, 0), (93, .iadd, 1, 0, 0), (94, .iastore, 1, 0, 0), (95, .iinc 4 1, 3, 0, 0), (98, .goto (-34), 3, 0, 0), (101, .iinc 3 1, 3, 0, 0), (104, .goto (-71), 3, 0, 0), (107, .return_, 1, 0, 0)]
set_option maxRecDepth 100000 in
theorem kX12_layTruths : mTok cX12_layTruths RX12 5 false tX12_layTruths := mTok_of (by decide +kernel) ⟨trivial, trivial, trivial, trivial, trivial, trivial, ⟨_, rfl, lfRX12_139⟩, trivial, trivial, trivial, trivial, trivial, trivial, trivial, ⟨_, rfl, lfRX12_473, (fun z => by cases z)⟩, trivial, trivial, trivial, trivial, trivial, trivial, trivial, trivial, trivial, trivial, trivial, trivial, trivial, trivial, trivial, trivial, trivial, ⟨_, rfl, lfRX12_473⟩, trivial, trivial, ⟨_, rfl, lfRX12_473, (fun z => by cases z)⟩, trivial, trivial, trivial, trivial, ⟨_, rfl, lfRX12_344⟩, trivial, trivial, ⟨_, rfl, lfRX12_139⟩, trivial, trivial, trivial, trivial, trivial, trivial, trivial, trivial, trivial, trivial, trivial, trivial, trivial, trivial, trivial, trivial, trivial, trivial, trivial⟩
def tX12_truths : List mI := [(0, .aload_n 0, 1, 0, 0), (1, .iload_n 1, 1, 0, 0), (2, .invokevirtual 479, 3, 0, 0), (5, .aload_n 0, 1, 0, 0), (6, .getfield 473, 3, 12, 69), (9, .ireturn, 1, 0, 0)]
set_option maxRecDepth 100000 in
theorem kX12_truths : mTok cX12_truths RX12 2 false tX12_truths := mTok_of (by decide +kernel) ⟨trivial, trivial, trivial, trivial, ⟨_, rfl, lfRX12_473⟩, trivial, trivial⟩
def tX12_range : List mI := [(0, .aload_n 0, 1, 0, 0), (1, .iload_n 1, 1, 0, 0), (2, .invokevirtual 388, 3, 0, 0), (5, .ifCond .eq 12, 3, 0, 0), (8, .iload_n 2, 1, 0, 0), (9, .iconst 0, 1, 0, 0), (10, .iconst 1, 1, 0, 0), (11, .invokestatic 362, 3, 0, 0), (14, .ifCond .ne 5, 3, 0, 0), (17, .iconst (-1), 1, 0, 0), (18, .ireturn, 1, 0, 0), (19, .aload_n 0, 1, 0, 0), (20, .iload_n 3, 1, 0, 0), (21, .invokevirtual 479, 3, 0, 0), (24, .iconst (-1), 1, 0, 0), (25, .istore 4, 2, 0, 0), (27, .iconst (-1), 1, 0, 0), (28, .istore 5, 2, 0, 0), (30, .iconst 0, 1, 0, 0), (31, .istore 6, 2, 0, 0), (33, .iload 6, 2, 0, 0), (35, .bipush 7, 2, 0, 0), (37, .if_icmp .gt 45, 3, 0, 0), (40, .aload_n 0, 1, 0, 0), (41, .getfield 139, 3, 12, 68), (44, .bipush 8, 2, 0, 0), (46, .iload_n 1, 1, 0, 0), (47, .imul, 1, 0, 0), (48, .iload 6, 2, 0, 0), (50, .iadd, 1, 0, 0), (51, .iaload, 1, 0, 0), (52, .ifCond .ne 6, 3, 0, 0), (55, .goto 21, 3, 0, 0), (58, .iload 4, 2, 0, 0), (60, .ifCond .ge 8, 3, 0, 0), (63, .iload 6, 2, 0, 0), (65, .goto 5, 3, 0, 0), (68, .iload 4, 2, 0, 0), (70, .istore 4, 2, 0, 0), (72, .iload 6, 2, 0, 0), (74, .istore 5, 2, 0, 0), (76, .iinc 6 1, 3, 0, 0), (79, .goto (-46), 3, 0, 0), (82, .iload_n 2, 1, 0, 0), (83, .ifCond .ne 8, 3, 0, 0), (86, .iload 4, 2, 0, 0), (88, .goto 5, 3, 0, 0), (91, .iload 5, 2, 0, 0), (93, .ireturn, 1, 0, 0)]
set_option maxRecDepth 100000 in
theorem kX12_range : mTok cX12_range RX12 7 false tX12_range := mTok_of (by decide +kernel) ⟨trivial, trivial, trivial, trivial, trivial, trivial, trivial, (fun z => by cases z), trivial, trivial, trivial, trivial, trivial, trivial, trivial, trivial, trivial, trivial, trivial, trivial, trivial, trivial, trivial, trivial, ⟨_, rfl, lfRX12_139⟩, trivial, trivial, trivial, trivial, trivial, trivial, trivial, trivial, trivial, trivial, trivial, trivial, trivial, trivial, trivial, trivial, trivial, trivial, trivial, trivial, trivial, trivial, trivial, trivial, trivial⟩
def tX12_liars : List mI := [(0, .bipush 31, 2, 0, 0), (2, .istore_n 2, 1, 0, 0), (3, .iconst 0, 1, 0, 0), (4, .istore_n 3, 1, 0, 0), (5, .aload_n 0, 1, 0, 0), (6, .invokevirtual 430, 3, 0, 0), (9, .istore 4, 2, 0, 0), (11, .iconst 0, 1, 0, 0), (12, .istore 5, 2, 0, 0), (14, .iload 5, 2, 0, 0), (16, .iload 4, 2, 0, 0), (18, .if_icmp .ge 34, 3, 0, 0), (21, .aload_n 0, 1, 0, 0), (22, .iload 5, 2, 0, 0), (24, .iload_n 1, 1, 0, 0), (25, .iload_n 2, 1, 0, 0), (26, .invokevirtual 476, 3, 0, 0), (29, .istore 6, 2, 0, 0), (31, .iload 6, 2, 0, 0), (33, .iload_n 2, 1, 0, 0), (34, .if_icmp .lt 6, 3, 0, 0), (37, .goto 9, 3, 0, 0), (40, .iload 6, 2, 0, 0), (42, .istore_n 2, 1, 0, 0), (43, .iload 5, 2, 0, 0), (45, .istore_n 3, 1, 0, 0), (46, .iinc 5 1, 3, 0, 0), (49, .goto (-35), 3, 0, 0), (52, .iconst 0, 1, 0, 0), (53, .istore 5, 2, 0, 0), (55, .iload 5, 2, 0, 0), (57, .aload_n 0, 1, 0, 0), (58, .getfield 344, 3, 12, 37), (61, .if_icmp .ge 23, 3, 0, 0), (64, .aload_n 0, 1, 0, 0), (65, .getfield 97, 3, 12, 50), (68, .iload 5, 2, 0, 0), (70, .aload_n 0, 1, 0, 0), (71, .iload_n 3, 1, 0, 0), (72, .iload 5, 2, 0, 0), (74, .invokevirtual 470, 3, 0, 0), (77, .iastore, 1, 0, 0), (78, .iinc 5 1, 3, 0, 0), (81, .goto (-26), 3, 0, 0), (84, .aload_n 0, 1, 0, 0), (85, .aload_n 0, 1, 0, 0), (86, .getfield 344, 3, 12, 37), (89, .putfield 359, 3, 12, 51), (92, .iload_n 2, 1, 0, 0), (93, .ireturn, 1, 0, 0)]
set_option maxRecDepth 100000 in
theorem kX12_liars : mTok cX12_liars RX12 7 false tX12_liars := mTok_of (by decide +kernel) ⟨trivial, trivial, trivial, trivial, trivial, trivial, trivial, trivial, trivial, trivial, trivial, trivial, trivial, trivial, trivial, trivial, trivial, trivial, trivial, trivial, trivial, trivial, trivial, trivial, trivial, trivial, trivial, trivial, trivial, trivial, trivial, trivial, ⟨_, rfl, lfRX12_344⟩, trivial, trivial, ⟨_, rfl, lfRX12_97⟩, trivial, trivial, trivial, trivial, trivial, trivial, trivial, trivial, trivial, trivial, ⟨_, rfl, lfRX12_344⟩, ⟨_, rfl, lfRX12_359, (fun z => by cases z)⟩, trivial, trivial, trivial⟩
def tX12_mostOf : List mI := [(0, .iconst 0, 1, 0, 0), (1, .istore_n 2, 1, 0, 0), (2, .iconst 0, 1, 0, 0), (3, .istore_n 3, 1, 0, 0), (4, .iload_n 3, 1, 0, 0), (5, .bipush 7, 2, 0, 0), (7, .if_icmp .gt 40, 3, 0, 0), (10, .aload_n 0, 1, 0, 0), (11, .getfield 139, 3, 12, 68), (14, .bipush 8, 2, 0, 0), (16, .iload_n 1, 1, 0, 0), (17, .imul, 1, 0, 0), (18, .iload_n 3, 1, 0, 0), (19, .iadd, 1, 0, 0), (20, .iaload, 1, 0, 0), (21, .iload_n 2, 1, 0, 0), (22, .if_icmp .le 17, 3, 0, 0), (25, .aload_n 0, 1, 0, 0), (26, .getfield 139, 3, 12, 68), (29, .bipush 8, 2, 0, 0), (31, .iload_n 1, 1, 0, 0), (32, .imul, 1, 0, 0), (33, .iload_n 3, 1, 0, 0), (34, .iadd, 1, 0, 0), (35, .iaload, 1, 0, 0), (36, .goto 4, 3, 0, 0), (39, .iload_n 2, 1, 0, 0), (40, .istore_n 2, 1, 0, 0), (41, .iinc 3 1, 3, 0, 0), (44, .goto (-40), 3, 0, 0), (47, .iload_n 2, 1, 0, 0), (48, .ireturn, 1, 0, 0)]
set_option maxRecDepth 100000 in
theorem kX12_mostOf : mTok cX12_mostOf RX12 4 false tX12_mostOf := mTok_of (by decide +kernel) ⟨trivial, trivial, trivial, trivial, trivial, trivial, trivial, trivial, ⟨_, rfl, lfRX12_139⟩, trivial, trivial, trivial, trivial, trivial, trivial, trivial, trivial, trivial, ⟨_, rfl, lfRX12_139⟩, trivial, trivial, trivial, trivial, trivial, trivial, trivial, trivial, trivial, trivial, trivial, trivial, trivial, trivial⟩
def tX12_knock : List mI := [(0, .iload_n 1, 1, 0, 0), (1, .iconst 0, 1, 0, 0), (2, .iconst 1, 1, 0, 0), (3, .invokestatic 362, 3, 0, 0), (6, .ifCond .eq 10, 3, 0, 0), (9, .aload_n 0, 1, 0, 0), (10, .getfield 344, 3, 12, 37), (13, .ifCond .ne 5, 3, 0, 0), (16, .iconst (-1), 1, 0, 0), (17, .ireturn, 1, 0, 0), (18, .aload_n 0, 1, 0, 0), (19, .iload_n 2, 1, 0, 0), (20, .invokevirtual 479, 3, 0, 0), (23, .aload_n 0, 1, 0, 0), (24, .getfield 473, 3, 12, 69), (27, .ifCond .ne 5, 3, 0, 0), (30, .iconst (-1), 1, 0, 0), (31, .ireturn, 1, 0, 0), (32, .iconst 0, 1, 0, 0), (33, .istore_n 3, 1, 0, 0), (34, .iconst 1, 1, 0, 0), (35, .istore 4, 2, 0, 0), (37, .iload 4, 2, 0, 0), (39, .aload_n 0, 1, 0, 0), (40, .getfield 344, 3, 12, 37), (43, .if_icmp .ge 30, 3, 0, 0), (46, .aload_n 0, 1, 0, 0), (47, .iload 4, 2, 0, 0), (49, .invokevirtual 482, 3, 0, 0), (52, .aload_n 0, 1, 0, 0), (53, .iload_n 3, 1, 0, 0), (54, .invokevirtual 482, 3, 0, 0), (57, .if_icmp .ge 8, 3, 0, 0), (60, .iload 4, 2, 0, 0), (62, .goto 4, 3, 0, 0), (65, .iload_n 3, 1, 0, 0), (66, .istore_n 3, 1, 0, 0), (67, .iinc 4 1, 3, 0, 0), (70, .goto (-33), 3, 0, 0), (73, .iload_n 1, 1, 0, 0), (74, .ifCond .ne 7, 3, 0, 0), (77, .iload_n 3, 1, 0, 0), (78, .goto 8, 3, 0, 0), (81, .aload_n 0, 1, 0, 0), (82, .iload_n 3, 1, 0, 0), (83, .invokevirtual 482, 3, 0, 0), (86, .ireturn, 1, 0, 0)]
set_option maxRecDepth 100000 in
theorem kX12_knock : mTok cX12_knock RX12 5 false tX12_knock := mTok_of (by decide +kernel) ⟨trivial, trivial, trivial, (fun z => by cases z), trivial, trivial, ⟨_, rfl, lfRX12_344⟩, trivial, trivial, trivial, trivial, trivial, trivial, trivial, ⟨_, rfl, lfRX12_473⟩, trivial, trivial, trivial, trivial, trivial, trivial, trivial, trivial, trivial, ⟨_, rfl, lfRX12_344⟩, trivial, trivial, trivial, trivial, trivial, trivial, trivial, trivial, trivial, trivial, trivial, trivial, trivial, trivial, trivial, trivial, trivial, trivial, trivial, trivial, trivial, trivial, trivial⟩
def tX12_tellsAll : List mI := [(0, .aload_n 0, 1, 0, 0), (1, .invokevirtual 430, 3, 0, 0), (4, .istore_n 3, 1, 0, 0), (5, .iconst 0, 1, 0, 0), (6, .istore 4, 2, 0, 0), (8, .iload 4, 2, 0, 0), (10, .iload_n 3, 1, 0, 0), (11, .if_icmp .ge 17, 3, 0, 0), (14, .aload_n 0, 1, 0, 0), (15, .getfield 143, 3, 12, 70), (18, .iload 4, 2, 0, 0), (20, .iconst 0, 1, 0, 0), (21, .bastore, 1, 0, 0), (22, .iinc 4 1, 3, 0, 0), (25, .goto (-17), 3, 0, 0), (28, .iconst 1, 1, 0, 0), (29, .istore 4, 2, 0, 0), (31, .iconst 0, 1, 0, 0), (32, .istore 5, 2, 0, 0), (34, .iload 5, 2, 0, 0), (36, .iload_n 3, 1, 0, 0), (37, .if_icmp .ge 105, 3, 0, 0), (40, .iload 4, 2, 0, 0), (42, .ifCond .eq 100, 3, 0, 0), (45, .aload_n 0, 1, 0, 0), (46, .iload 5, 2, 0, 0), (48, .iload_n 2, 1, 0, 0), (49, .iconst 0, 1, 0, 0), (50, .invokevirtual 476, 3, 0, 0), (53, .ifCond .le 6, 3, 0, 0), (56, .goto 80, 3, 0, 0), (59, .iload 5, 2, 0, 0), (61, .istore 6, 2, 0, 0), (63, .iconst 0, 1, 0, 0), (64, .istore 7, 2, 0, 0), (66, .iload 7, 2, 0, 0), (68, .aload_n 0, 1, 0, 0), (69, .getfield 344, 3, 12, 37), (72, .if_icmp .ge 39, 3, 0, 0), (75, .iload_n 1, 1, 0, 0), (76, .iload 7, 2, 0, 0), (78, .ishr, 1, 0, 0), (79, .iconst 1, 1, 0, 0), (80, .iand, 1, 0, 0), (81, .ifCond .ne 24, 3, 0, 0), (84, .iload 6, 2, 0, 0), (86, .bipush 7, 2, 0, 0), (88, .iconst 3, 1, 0, 0), (89, .aload_n 0, 1, 0, 0), (90, .getfield 344, 3, 12, 37), (93, .iconst 1, 1, 0, 0), (94, .isub, 1, 0, 0), (95, .iload 7, 2, 0, 0), (97, .isub, 1, 0, 0), (98, .imul, 1, 0, 0), (99, .ishl, 1, 0, 0), (100, .iconst (-1), 1, 0, 0), (101, .ixor, 1, 0, 0), (102, .iand, 1, 0, 0), (103, .istore 6, 2, 0, 0), (105, .iinc 7 1, 3, 0, 0), (108, .goto (-42), 3, 0, 0), (111, .aload_n 0, 1, 0, 0), (112, .getfield 143, 3, 12, 70), (115, .iload 6, 2, 0, 0), (117, .baload, 1, 0, 0), (118, .ifCond .ne 7, 3, 0, 0), (121, .iconst 1, 1, 0, 0), (122, .goto 4, 3, 0, 0), (125, .iconst 0, 1, 0, 0), (126, .istore 4, 2, 0, 0), (128, .aload_n 0, 1, 0, 0), (129, .getfield 143, 3, 12, 70), (132, .iload 6, 2, 0, 0), (134, .iconst 1, 1, 0, 0), (135, .bastore, 1, 0, 0), (136, .iinc 5 1, 3, 0, 0), (139, .goto (-105), 3, 0, 0), (142, .iload 4, 2, 0, 0), (144, .ireturn, 1, 0, 0)]
set_option maxRecDepth 100000 in
theorem kX12_tellsAll : mTok cX12_tellsAll RX12 8 false tX12_tellsAll := mTok_of (by decide +kernel) ⟨trivial, trivial, trivial, trivial, trivial, trivial, trivial, trivial, trivial, ⟨_, rfl, lfRX12_143⟩, trivial, trivial, trivial, trivial, trivial, trivial, trivial, trivial, trivial, trivial, trivial, trivial, trivial, trivial, trivial, trivial, trivial, trivial, trivial, trivial, trivial, trivial, trivial, trivial, trivial, trivial, trivial, ⟨_, rfl, lfRX12_344⟩, trivial, trivial, trivial, trivial, trivial, trivial, trivial, trivial, trivial, trivial, trivial, ⟨_, rfl, lfRX12_344⟩, trivial, trivial, trivial, trivial, trivial, trivial, trivial, trivial, trivial, trivial, trivial, trivial, trivial, ⟨_, rfl, lfRX12_143⟩, trivial, trivial, trivial, trivial, trivial, trivial, trivial, trivial, ⟨_, rfl, lfRX12_143⟩, trivial, trivial, trivial, trivial, trivial, trivial, trivial, trivial⟩
def tX12_membersOf : List mI := [(0, .iconst 0, 1, 0, 0), (1, .istore_n 1, 1, 0, 0), (2, .iconst 0, 1, 0, 0), (3, .istore_n 2, 1, 0, 0), (4, .iload_n 2, 1, 0, 0), (5, .iconst 5, 1, 0, 0), (6, .if_icmp .ge 17, 3, 0, 0), (9, .iload_n 1, 1, 0, 0), (10, .iload_n 0, 1, 0, 0), (11, .iload_n 2, 1, 0, 0), (12, .ishr, 1, 0, 0), (13, .iconst 1, 1, 0, 0), (14, .iand, 1, 0, 0), (15, .iadd, 1, 0, 0), (16, .istore_n 1, 1, 0, 0), (17, .iinc 2 1, 3, 0, 0), (20, .goto (-16), 3, 0, 0), (23, .iload_n 1, 1, 0, 0), (24, .ireturn, 1, 0, 0)]
set_option maxRecDepth 100000 in
theorem kX12_membersOf : mTok cX12_membersOf RX12 3 false tX12_membersOf := mTok_of (by decide +kernel) ⟨trivial, trivial, trivial, trivial, trivial, trivial, trivial, trivial, trivial, trivial, trivial, trivial, trivial, trivial, trivial, trivial, trivial, trivial, trivial, trivial⟩
def tX12_tells : List mI := [(0, .iload_n 1, 1, 0, 0), (1, .iconst 0, 1, 0, 0), (2, .iconst 1, 1, 0, 0), (3, .invokestatic 362, 3, 0, 0), (6, .ifCond .ne 5, 3, 0, 0), (9, .iconst (-1), 1, 0, 0), (10, .ireturn, 1, 0, 0), (11, .aload_n 0, 1, 0, 0), (12, .iload_n 2, 1, 0, 0), (13, .invokevirtual 479, 3, 0, 0), (16, .aload_n 0, 1, 0, 0), (17, .getfield 473, 3, 12, 69), (20, .ifCond .ne 5, 3, 0, 0), (23, .iconst (-1), 1, 0, 0), (24, .ireturn, 1, 0, 0), (25, .iconst 1, 1, 0, 0), (26, .aload_n 0, 1, 0, 0), (27, .getfield 344, 3, 12, 37), (30, .ishl, 1, 0, 0), (31, .iconst 1, 1, 0, 0), (32, .isub, 1, 0, 0), (33, .istore_n 3, 1, 0, 0), (34, .iconst 0, 1, 0, 0), (35, .istore 4, 2, 0, 0), (37, .iload 4, 2, 0, 0), (39, .iconst 1, 1, 0, 0), (40, .aload_n 0, 1, 0, 0), (41, .getfield 344, 3, 12, 37), (44, .ishl, 1, 0, 0), (45, .if_icmp .ge 52, 3, 0, 0), (48, .iload 4, 2, 0, 0), (50, .invokestatic 485, 3, 0, 0), (53, .iload_n 3, 1, 0, 0), (54, .invokestatic 485, 3, 0, 0), (57, .if_icmp .lt 21, 3, 0, 0), (60, .iload 4, 2, 0, 0), (62, .invokestatic 485, 3, 0, 0), (65, .iload_n 3, 1, 0, 0), (66, .invokestatic 485, 3, 0, 0), (69, .if_icmp .ne 22, 3, 0, 0), (72, .iload 4, 2, 0, 0), (74, .iload_n 3, 1, 0, 0), (75, .if_icmp .ge 16, 3, 0, 0), (78, .aload_n 0, 1, 0, 0), (79, .iload 4, 2, 0, 0), (81, .iload_n 2, 1, 0, 0), (82, .invokevirtual 488, 3, 0, 0), (85, .ifCond .eq 6, 3, 0, 0), (88, .iload 4, 2, 0, 0), (90, .istore_n 3, 1, 0, 0), (91, .iinc 4 1, 3, 0, 0), (94, .goto (-57), 3, 0, 0), (97, .iload_n 1, 1, 0, 0), (98, .ifCond .ne 10, 3, 0, 0), (101, .iload_n 3, 1, 0, 0), (102, .invokestatic 485, 3, 0, 0), (105, .goto 4, 3, 0, 0), (108, .iload_n 3, 1, 0, 0), (109, .ireturn, 1, 0, 0)]
set_option maxRecDepth 100000 in
theorem kX12_tells : mTok cX12_tells RX12 5 false tX12_tells := mTok_of (by decide +kernel) ⟨trivial, trivial, trivial, (fun z => by cases z), trivial, trivial, trivial, trivial, trivial, trivial, trivial, ⟨_, rfl, lfRX12_473⟩, trivial, trivial, trivial, trivial, trivial, ⟨_, rfl, lfRX12_344⟩, trivial, trivial, trivial, trivial, trivial, trivial, trivial, trivial, trivial, ⟨_, rfl, lfRX12_344⟩, trivial, trivial, trivial, (fun z => by cases z), trivial, (fun z => by cases z), trivial, trivial, (fun z => by cases z), trivial, (fun z => by cases z), trivial, trivial, trivial, trivial, trivial, trivial, trivial, trivial, trivial, trivial, trivial, trivial, trivial, trivial, trivial, trivial, (fun z => by cases z), trivial, trivial, trivial, trivial⟩
def tX12_common : List mI := [(0, .iload_n 0, 1, 0, 0), (1, .istore_n 2, 1, 0, 0), (2, .iload_n 1, 1, 0, 0), (3, .istore_n 3, 1, 0, 0), (4, .iload_n 3, 1, 0, 0), (5, .ifCond .le 16, 3, 0, 0), (8, .iload_n 2, 1, 0, 0), (9, .iload_n 3, 1, 0, 0), (10, .irem, 1, 0, 0), (11, .istore 4, 2, 0, 0), (13, .iload_n 3, 1, 0, 0), (14, .istore_n 2, 1, 0, 0), (15, .iload 4, 2, 0, 0), (17, .istore_n 3, 1, 0, 0), (18, .goto (-14), 3, 0, 0), (21, .iload_n 2, 1, 0, 0), (22, .ireturn, 1, 0, 0)]
set_option maxRecDepth 100000 in
theorem kX12_common : mTok cX12_common RX12 5 false tX12_common := mTok_of (by decide +kernel) ⟨trivial, trivial, trivial, trivial, trivial, trivial, trivial, trivial, trivial, trivial, trivial, trivial, trivial, trivial, trivial, trivial, trivial, trivial⟩
def tX12_odds : List mI := [(0, .aload_n 0, 1, 0, 0), (1, .iload_n 1, 1, 0, 0), (2, .invokevirtual 388, 3, 0, 0), (5, .ifCond .eq 22, 3, 0, 0), (8, .iload_n 2, 1, 0, 0), (9, .iconst 0, 1, 0, 0), (10, .bipush 7, 2, 0, 0), (12, .invokestatic 362, 3, 0, 0), (15, .ifCond .eq 12, 3, 0, 0), (18, .iload_n 3, 1, 0, 0), (19, .iconst 0, 1, 0, 0), (20, .iconst 1, 1, 0, 0), (21, .invokestatic 362, 3, 0, 0), (24, .ifCond .ne 5, 3, 0, 0), (27, .iconst (-1), 1, 0, 0), (28, .ireturn, 1, 0, 0), (29, .aload_n 0, 1, 0, 0), (30, .iload 4, 2, 0, 0), (32, .invokevirtual 479, 3, 0, 0), (35, .aload_n 0, 1, 0, 0), (36, .getfield 473, 3, 12, 69), (39, .ifCond .ne 5, 3, 0, 0), (42, .iconst (-1), 1, 0, 0), (43, .ireturn, 1, 0, 0), (44, .aload_n 0, 1, 0, 0), (45, .getfield 139, 3, 12, 68), (48, .bipush 8, 2, 0, 0), (50, .iload_n 1, 1, 0, 0), (51, .imul, 1, 0, 0), (52, .iload_n 2, 1, 0, 0), (53, .iadd, 1, 0, 0), (54, .iaload, 1, 0, 0), (55, .istore 5, 2, 0, 0), (57, .aload_n 0, 1, 0, 0), (58, .getfield 473, 3, 12, 69), (61, .iload 5, 2, 0, 0), (63, .invokestatic 492, 3, 0, 0), (66, .istore 6, 2, 0, 0), (68, .iload_n 3, 1, 0, 0), (69, .ifCond .ne 11, 3, 0, 0), (72, .iload 5, 2, 0, 0), (74, .iload 6, 2, 0, 0), (76, .idiv, 1, 0, 0), (77, .goto 10, 3, 0, 0), (80, .aload_n 0, 1, 0, 0), (81, .getfield 473, 3, 12, 69), (84, .iload 6, 2, 0, 0), (86, .idiv, 1, 0, 0), (87, .ireturn, 1, 0, 0)]
set_option maxRecDepth 100000 in
theorem kX12_odds : mTok cX12_odds RX12 7 false tX12_odds := mTok_of (by decide +kernel) ⟨trivial, trivial, trivial, trivial, trivial, trivial, trivial, (fun z => by cases z), trivial, trivial, trivial, trivial, (fun z => by cases z), trivial, trivial, trivial, trivial, trivial, trivial, trivial, ⟨_, rfl, lfRX12_473⟩, trivial, trivial, trivial, trivial, ⟨_, rfl, lfRX12_139⟩, trivial, trivial, trivial, trivial, trivial, trivial, trivial, trivial, ⟨_, rfl, lfRX12_473⟩, trivial, (fun z => by cases z), trivial, trivial, trivial, trivial, trivial, trivial, trivial, trivial, ⟨_, rfl, lfRX12_473⟩, trivial, trivial, trivial, trivial⟩
def tX12_isBox : List mI := [(0, .iload_n 0, 1, 0, 0), (1, .ifCond .lt 12, 3, 0, 0), (4, .iload_n 0, 1, 0, 0), (5, .iconst 3, 1, 0, 0), (6, .if_icmp .ge 7, 3, 0, 0), (9, .iconst 1, 1, 0, 0), (10, .goto 4, 3, 0, 0), (13, .iconst 0, 1, 0, 0), (14, .ireturn, 1, 0, 0)]
set_option maxRecDepth 100000 in
theorem kX12_isBox : mTok cX12_isBox RX12 1 false tX12_isBox := mTok_of (by decide +kernel) ⟨trivial, trivial, trivial, trivial, trivial, trivial, trivial, trivial, trivial, trivial⟩
def tX12_image : List mI := [(0, .iload_n 1, 1, 0, 0), (1, .invokestatic 495, 3, 0, 0), (4, .ifCond .ne 5, 3, 0, 0), (7, .iconst (-1), 1, 0, 0), (8, .ireturn, 1, 0, 0), (9, .aload_n 0, 1, 0, 0), (10, .getfield 146, 3, 12, 71), (13, .iload_n 1, 1, 0, 0), (14, .iconst 1, 1, 0, 0), (15, .bastore, 1, 0, 0), (16, .iconst 0, 1, 0, 0), (17, .istore_n 2, 1, 0, 0), (18, .iload_n 2, 1, 0, 0), (19, .bipush 17, 2, 0, 0), (21, .if_icmp .ge 26, 3, 0, 0), (24, .aload_n 0, 1, 0, 0), (25, .getfield 149, 3, 12, 72), (28, .bipush 18, 2, 0, 0), (30, .iload_n 1, 1, 0, 0), (31, .imul, 1, 0, 0), (32, .iload_n 2, 1, 0, 0), (33, .iadd, 1, 0, 0), (34, .aload_n 0, 1, 0, 0), (35, .getfield 76, 3, 12, 39), (38, .iload_n 2, 1, 0, 0), (39, .iaload, 1, 0, 0), (40, .iastore, 1, 0, 0), (41, .iinc 2 1, 3, 0, 0), (44, .goto (-26), 3, 0, 0), (47, .aload_n 0, 1, 0, 0), (48, .getfield 76, 3, 12, 39), (51, .bipush 15, 2, 0, 0), (53, .iaload, 1, 0, 0), (54, .ireturn, 1, 0, 0)]
set_option maxRecDepth 100000 in
theorem kX12_image : mTok cX12_image RX12 3 false tX12_image := mTok_of (by decide +kernel) ⟨trivial, (fun z => by cases z), trivial, trivial, trivial, trivial, ⟨_, rfl, lfRX12_146⟩, trivial, trivial, trivial, trivial, trivial, trivial, trivial, trivial, trivial, ⟨_, rfl, lfRX12_149⟩, trivial, trivial, trivial, trivial, trivial, trivial, ⟨_, rfl, lfRX12_76⟩, trivial, trivial, trivial, trivial, trivial, trivial, ⟨_, rfl, lfRX12_76⟩, trivial, trivial, trivial, trivial⟩
def tX12_back : List mI := [(0, .iload_n 1, 1, 0, 0), (1, .invokestatic 495, 3, 0, 0), (4, .ifCond .eq 12, 3, 0, 0), (7, .aload_n 0, 1, 0, 0), (8, .getfield 146, 3, 12, 71), (11, .iload_n 1, 1, 0, 0), (12, .baload, 1, 0, 0), (13, .ifCond .ne 5, 3, 0, 0), (16, .iconst (-1), 1, 0, 0), (17, .ireturn, 1, 0, 0), (18, .iconst 0, 1, 0, 0), (19, .istore_n 2, 1, 0, 0), (20, .iload_n 2, 1, 0, 0), (21, .bipush 17, 2, 0, 0), (23, .if_icmp .ge 26, 3, 0, 0), (26, .aload_n 0, 1, 0, 0), (27, .getfield 76, 3, 12, 39), (30, .iload_n 2, 1, 0, 0), (31, .aload_n 0, 1, 0, 0), (32, .getfield 149, 3, 12, 72), (35, .bipush 18, 2, 0, 0), (37, .iload_n 1, 1, 0, 0), (38, .imul, 1, 0, 0), (39, .iload_n 2, 1, 0, 0), (40, .iadd, 1, 0, 0), (41, .iaload, 1, 0, 0), (42, .iastore, 1, 0, 0), (43, .iinc 2 1, 3, 0, 0), (46, .goto (-26), 3, 0, 0), (49, .aload_n 0, 1, 0, 0), (50, .iconst 0, 1, 0, 0), (51, .putfield 350, 3, 12, 46), (54, .aload_n 0, 1, 0, 0), (55, .iconst 0, 1, 0, 0), (56, .putfield 353, 3, 12, 47), (59, .aload_n 0, 1, 0, 0), (60, .getfield 76, 3, 12, 39), (63, .bipush 15, 2, 0, 0), (65, .iaload, 1, 0, 0), (66, .ireturn, 1, 0, 0)]
set_option maxRecDepth 100000 in
theorem kX12_back : mTok cX12_back RX12 3 false tX12_back := mTok_of (by decide +kernel) ⟨trivial, (fun z => by cases z), trivial, trivial, ⟨_, rfl, lfRX12_146⟩, trivial, trivial, trivial, trivial, trivial, trivial, trivial, trivial, trivial, trivial, trivial, ⟨_, rfl, lfRX12_76⟩, trivial, trivial, ⟨_, rfl, lfRX12_149⟩, trivial, trivial, trivial, trivial, trivial, trivial, trivial, trivial, trivial, trivial, trivial, ⟨_, rfl, lfRX12_350, (fun z => by cases z)⟩, trivial, trivial, ⟨_, rfl, lfRX12_353, (fun z => by cases z)⟩, trivial, ⟨_, rfl, lfRX12_76⟩, trivial, trivial, trivial, trivial⟩
def tX12_about : List mI := [(0, .iload_n 1, 1, 0, 0), (1, .tableswitch 111 0 9 #[55, 60, 68, 76, 81, 86, 91, 96, 101, 106], 55, 0, 0), (56, .aload_n 0, 1, 0, 0), (57, .getfield 344, 3, 12, 37), (60, .ireturn, 1, 0, 0), (61, .aload_n 0, 1, 0, 0), (62, .getfield 76, 3, 12, 39), (65, .bipush 15, 2, 0, 0), (67, .iaload, 1, 0, 0), (68, .ireturn, 1, 0, 0), (69, .aload_n 0, 1, 0, 0), (70, .getfield 76, 3, 12, 39), (73, .bipush 16, 2, 0, 0), (75, .iaload, 1, 0, 0), (76, .ireturn, 1, 0, 0), (77, .aload_n 0, 1, 0, 0), (78, .getfield 350, 3, 12, 46), (81, .ireturn, 1, 0, 0), (82, .aload_n 0, 1, 0, 0), (83, .getfield 353, 3, 12, 47), (86, .ireturn, 1, 0, 0), (87, .aload_n 0, 1, 0, 0), (88, .getfield 356, 3, 12, 66), (91, .ireturn, 1, 0, 0), (92, .aload_n 0, 1, 0, 0), (93, .getfield 466, 3, 12, 67), (96, .ireturn, 1, 0, 0), (97, .aload_n 0, 1, 0, 0), (98, .getfield 152, 3, 12, 1), (101, .ireturn, 1, 0, 0), (102, .aload_n 0, 1, 0, 0), (103, .getfield 347, 3, 12, 24), (106, .ireturn, 1, 0, 0), (107, .aload_n 0, 1, 0, 0), (108, .getfield 359, 3, 12, 51), (111, .ireturn, 1, 0, 0), (112, .iconst (-1), 1, 0, 0), (113, .ireturn, 1, 0, 0)]
set_option maxRecDepth 100000 in
theorem kX12_about : mTok cX12_about RX12 2 false tX12_about := mTok_of (by decide +kernel) ⟨trivial, trivial, trivial, ⟨_, rfl, lfRX12_344⟩, trivial, trivial, ⟨_, rfl, lfRX12_76⟩, trivial, trivial, trivial, trivial, ⟨_, rfl, lfRX12_76⟩, trivial, trivial, trivial, trivial, ⟨_, rfl, lfRX12_350⟩, trivial, trivial, ⟨_, rfl, lfRX12_353⟩, trivial, trivial, ⟨_, rfl, lfRX12_356⟩, trivial, trivial, ⟨_, rfl, lfRX12_466⟩, trivial, trivial, ⟨_, rfl, lfRX12_152⟩, trivial, trivial, ⟨_, rfl, lfRX12_347⟩, trivial, trivial, ⟨_, rfl, lfRX12_359⟩, trivial, trivial, trivial, trivial⟩
end
section
theorem lkRX0_29 : mLk 1 RX0 29 mX0_leaf 2 := ⟨⟨by decide, by decide, by decide +kernel⟩, lwX0_leaf, li_RX0, lmRX0_29, ltX0_leaf⟩
theorem lkRX0_33 : mLk 1 RX0 33 mX0_join 3 := ⟨⟨by decide, by decide, by decide +kernel⟩, lwX0_join, li_RX0, lmRX0_33, ltX0_join⟩
theorem lkRX1_30 : mLk 1 RX1 30 mX1_taxHiding 4 := ⟨⟨by decide, by decide, by decide +kernel⟩, lwX1_taxHiding, li_RX1, lmRX1_30, ltX1_taxHiding⟩
theorem lkRX1_35 : mLk 0 RX1 35 mX8_stonesHiding 3 := ⟨⟨by decide, by decide, by decide +kernel⟩, lwX8_stonesHiding, li_RX8, lmRX1_35, loX8_stonesHiding, lvX8_stonesHiding⟩
theorem lkRX1_42 : mLk 0 RX1 42 mX8_taxOf 3 := ⟨⟨by decide, by decide, by decide +kernel⟩, lwX8_taxOf, li_RX8, lmRX1_42, loX8_taxOf, lvX8_taxOf⟩
theorem lkRX1_46 : mLk 1 RX1 46 mJ9_min_7cf53 2 := ⟨⟨by decide, by decide, by decide +kernel⟩, lwJ9_min_7cf53, li_RJ9, lmRX1_46, ltJ9_min_7cf53⟩
theorem lkRX1_52 : mLk 0 RX1 52 mX1_weighFromTheEnd 0 := ⟨⟨by decide, by decide, by decide +kernel⟩, lwX1_weighFromTheEnd, li_RX1, lmRX1_52, loX1_weighFromTheEnd, lvX1_weighFromTheEnd⟩
theorem lkRX1_55 : mLk 0 RX1 55 mX1_pickFirst 2 := ⟨⟨by decide, by decide, by decide +kernel⟩, lwX1_pickFirst, li_RX1, lmRX1_55, loX1_pickFirst, lvX1_pickFirst⟩
theorem lkRX1_59 : mLk 1 RX1 59 mJ7_fill_53178 2 := ⟨⟨by decide, by decide, by decide +kernel⟩, lwJ7_fill_53178, li_RJ7, lmRX1_59, ltJ7_fill_53178⟩
theorem lkRX1_65 : mLk 0 RX1 65 mX1_cheapestFrom 2 := ⟨⟨by decide, by decide, by decide +kernel⟩, lwX1_cheapestFrom, li_RX1, lmRX1_65, loX1_cheapestFrom, lvX1_cheapestFrom⟩
theorem lkRX1_68 : mLk 0 RX1 68 mX1_firstThatFits 3 := ⟨⟨by decide, by decide, by decide +kernel⟩, lwX1_firstThatFits, li_RX1, lmRX1_68, loX1_firstThatFits, lvX1_firstThatFits⟩
theorem lkRX2_33 : mLk 0 RX2 33 mX2_copyFrom 1 := ⟨⟨by decide, by decide, by decide +kernel⟩, lwX2_copyFrom, li_RX2, lmRX2_33, loX2_copyFrom, lvX2_copyFrom⟩
theorem lkRX2_37 : mLk 0 RX2 37 mX2_copyTo 1 := ⟨⟨by decide, by decide, by decide +kernel⟩, lwX2_copyTo, li_RX2, lmRX2_37, loX2_copyTo, lvX2_copyTo⟩
theorem lkRX3_18 : mLk 4 RX3 18 mX9_init 0 := ⟨⟨by decide, by decide, by decide +kernel⟩, lwX9_init, li_RX9, ⟨"StoneCensus", by decide +kernel⟩, loX9_init, rfl, rfl⟩
theorem lkRX3_44 : mLk 1 RX3 44 mJ7_fill_53178 2 := ⟨⟨by decide, by decide, by decide +kernel⟩, lwJ7_fill_53178, li_RJ7, lmRX3_44, ltJ7_fill_53178⟩
theorem lkRX3_50 : mLk 0 RX3 50 mX3_takeReports 1 := ⟨⟨by decide, by decide, by decide +kernel⟩, lwX3_takeReports, li_RX3, lmRX3_50, loX3_takeReports, lvX3_takeReports⟩
theorem lkRX3_54 : mLk 0 RX3 54 mX9_list 2 := ⟨⟨by decide, by decide, by decide +kernel⟩, lwX9_list, li_RX9, lmRX3_54, loX9_list, lvX9_list⟩
theorem lkRX3_58 : mLk 0 RX3 58 mX3_countOwed 0 := ⟨⟨by decide, by decide, by decide +kernel⟩, lwX3_countOwed, li_RX3, lmRX3_58, loX3_countOwed, lvX3_countOwed⟩
theorem lkRX3_61 : mLk 1 RX3 61 mJ6_bitCount_0f7a4 1 := ⟨⟨by decide, by decide, by decide +kernel⟩, lwJ6_bitCount_0f7a4, li_RJ6, lmRX3_61, ltJ6_bitCount_0f7a4⟩
theorem lkRX3_70 : mLk 0 RX3 70 mX3_searchFrom 2 := ⟨⟨by decide, by decide, by decide +kernel⟩, lwX3_searchFrom, li_RX3, lmRX3_70, loX3_searchFrom, lvX3_searchFrom⟩
theorem lkRX3_94 : mLk 0 RX3 94 mX3_leastAgainst 1 := ⟨⟨by decide, by decide, by decide +kernel⟩, lwX3_leastAgainst, li_RX3, lmRX3_94, loX3_leastAgainst, lvX3_leastAgainst⟩
theorem lkRX3_97 : mLk 1 RX3 97 mJ9_min_7cf53 2 := ⟨⟨by decide, by decide, by decide +kernel⟩, lwJ9_min_7cf53, li_RJ9, lmRX3_97, ltJ9_min_7cf53⟩
theorem lkRX3_108 : mLk 0 RX3 108 mX3_againstWith 2 := ⟨⟨by decide, by decide, by decide +kernel⟩, lwX3_againstWith, li_RX3, lmRX3_108, loX3_againstWith, lvX3_againstWith⟩
theorem lkRX3_111 : mLk 0 RX3 111 mX9_setHeads 2 := ⟨⟨by decide, by decide, by decide +kernel⟩, lwX9_setHeads, li_RX9, lmRX3_111, loX9_setHeads, lvX9_setHeads⟩
theorem lkRX4_19 : mLk 0 RX4 19 mX8_clear 0 := ⟨⟨by decide, by decide, by decide +kernel⟩, lwX8_clear, li_RX8, lmRX4_19, loX8_clear, lvX8_clear⟩
theorem lkRX4_30 : mLk 0 RX4 30 mX4_advance 0 := ⟨⟨by decide, by decide, by decide +kernel⟩, lwX4_advance, li_RX4, lmRX4_30, loX4_advance, lvX4_advance⟩
theorem lkRX4_36 : mLk 0 RX4 36 mX4_readLine 1 := ⟨⟨by decide, by decide, by decide +kernel⟩, lwX4_readLine, li_RX4, lmRX4_36, loX4_readLine, lvX4_readLine⟩
theorem lkRX4_42 : mLk 0 RX4 42 mX4_isWord 1 := ⟨⟨by decide, by decide, by decide +kernel⟩, lwX4_isWord, li_RX4, lmRX4_42, loX4_isWord, lvX4_isWord⟩
theorem lkRX4_46 : mLk 0 RX4 46 mX4_readHouse 1 := ⟨⟨by decide, by decide, by decide +kernel⟩, lwX4_readHouse, li_RX4, lmRX4_46, loX4_readHouse, lvX4_readHouse⟩
theorem lkRX4_54 : mLk 0 RX4 54 mX4_readLaw 1 := ⟨⟨by decide, by decide, by decide +kernel⟩, lwX4_readLaw, li_RX4, lmRX4_54, loX4_readLaw, lvX4_readLaw⟩
theorem lkRX4_68 : mLk 0 RX4 68 mX4_readDraw 1 := ⟨⟨by decide, by decide, by decide +kernel⟩, lwX4_readDraw, li_RX4, lmRX4_68, loX4_readDraw, lvX4_readDraw⟩
theorem lkRX4_71 : mLk 0 RX4 71 mX4_refuse 1 := ⟨⟨by decide, by decide, by decide +kernel⟩, lwX4_refuse, li_RX4, lmRX4_71, loX4_refuse, lvX4_refuse⟩
theorem lkRX4_75 : mLk 0 RX4 75 mX4_takeSign 1 := ⟨⟨by decide, by decide, by decide +kernel⟩, lwX4_takeSign, li_RX4, lmRX4_75, loX4_takeSign, lvX4_takeSign⟩
theorem lkRX4_82 : mLk 0 RX4 82 mX4_takeName 1 := ⟨⟨by decide, by decide, by decide +kernel⟩, lwX4_takeName, li_RX4, lmRX4_82, loX4_takeName, lvX4_takeName⟩
theorem lkRX4_87 : mLk 0 RX4 87 mX4_takeTold 2 := ⟨⟨by decide, by decide, by decide +kernel⟩, lwX4_takeTold, li_RX4, lmRX4_87, loX4_takeTold, lvX4_takeTold⟩
theorem lkRX4_97 : mLk 0 RX4 97 mX8_addHouse 5 := ⟨⟨by decide, by decide, by decide +kernel⟩, lwX8_addHouse, li_RX8, lmRX4_97, loX8_addHouse, lvX8_addHouse⟩
theorem lkRX4_112 : mLk 0 RX4 112 mX4_readEither 2 := ⟨⟨by decide, by decide, by decide +kernel⟩, lwX4_readEither, li_RX4, lmRX4_112, loX4_readEither, lvX4_readEither⟩
theorem lkRX4_116 : mLk 0 RX4 116 mX4_readBoth 2 := ⟨⟨by decide, by decide, by decide +kernel⟩, lwX4_readBoth, li_RX4, lmRX4_116, loX4_readBoth, lvX4_readBoth⟩
theorem lkRX4_121 : mLk 0 RX4 121 mX0_add 1 := ⟨⟨by decide, by decide, by decide +kernel⟩, lwX0_add, li_RX0, lmRX4_121, loX0_add, lvX0_add⟩
theorem lkRX4_124 : mLk 0 RX4 124 mX4_readOne 2 := ⟨⟨by decide, by decide, by decide +kernel⟩, lwX4_readOne, li_RX4, lmRX4_124, loX4_readOne, lvX4_readOne⟩
theorem lkRX4_131 : mLk 0 RX4 131 mX4_readSum 2 := ⟨⟨by decide, by decide, by decide +kernel⟩, lwX4_readSum, li_RX4, lmRX4_131, loX4_readSum, lvX4_readSum⟩
theorem lkRX4_134 : mLk 0 RX4 134 mX4_isSign 1 := ⟨⟨by decide, by decide, by decide +kernel⟩, lwX4_isSign, li_RX4, lmRX4_134, loX4_isSign, lvX4_isSign⟩
theorem lkRX4_142 : mLk 0 RX4 142 mX4_readTerm 2 := ⟨⟨by decide, by decide, by decide +kernel⟩, lwX4_readTerm, li_RX4, lmRX4_142, loX4_readTerm, lvX4_readTerm⟩
theorem lkRX4_145 : mLk 0 RX4 145 mX4_readUnit 2 := ⟨⟨by decide, by decide, by decide +kernel⟩, lwX4_readUnit, li_RX4, lmRX4_145, loX4_readUnit, lvX4_readUnit⟩
theorem lkRX4_151 : mLk 0 RX4 151 mX4_valueNamed 0 := ⟨⟨by decide, by decide, by decide +kernel⟩, lwX4_valueNamed, li_RX4, lmRX4_151, loX4_valueNamed, lvX4_valueNamed⟩
theorem lkRX4_168 : mLk 0 RX4 168 mX4_standsForItself 0 := ⟨⟨by decide, by decide, by decide +kernel⟩, lwX4_standsForItself, li_RX4, lmRX4_168, loX4_standsForItself, lvX4_standsForItself⟩
theorem lkRX4_172 : mLk 0 RX4 172 mX8_hasName 1 := ⟨⟨by decide, by decide, by decide +kernel⟩, lwX8_hasName, li_RX8, lmRX4_172, loX8_hasName, lvX8_hasName⟩
theorem lkRX4_190 : mLk 0 RX4 190 mX4_isLetterAt 1 := ⟨⟨by decide, by decide, by decide +kernel⟩, lwX4_isLetterAt, li_RX4, lmRX4_190, loX4_isLetterAt, lvX4_isLetterAt⟩
theorem lkRX4_194 : mLk 0 RX4 194 mX4_scanWord 0 := ⟨⟨by decide, by decide, by decide +kernel⟩, lwX4_scanWord, li_RX4, lmRX4_194, loX4_scanWord, lvX4_scanWord⟩
theorem lkRX4_197 : mLk 0 RX4 197 mX4_isDigitAt 1 := ⟨⟨by decide, by decide, by decide +kernel⟩, lwX4_isDigitAt, li_RX4, lmRX4_197, loX4_isDigitAt, lvX4_isDigitAt⟩
theorem lkRX4_200 : mLk 0 RX4 200 mX4_scanNumber 0 := ⟨⟨by decide, by decide, by decide +kernel⟩, lwX4_scanNumber, li_RX4, lmRX4_200, loX4_scanNumber, lvX4_scanNumber⟩
theorem lkRX4_203 : mLk 0 RX4 203 mX4_scanSign 0 := ⟨⟨by decide, by decide, by decide +kernel⟩, lwX4_scanSign, li_RX4, lmRX4_203, loX4_scanSign, lvX4_scanSign⟩
theorem lkRX6_50 : mLk 1 RX6 50 mJ7_fill_53178 2 := ⟨⟨by decide, by decide, by decide +kernel⟩, lwJ7_fill_53178, li_RJ7, lmRX6_50, ltJ7_fill_53178⟩
theorem lkRX6_56 : mLk 0 RX6 56 mX6_sendFrom 4 := ⟨⟨by decide, by decide, by decide +kernel⟩, lwX6_sendFrom, li_RX6, lmRX6_56, loX6_sendFrom, lvX6_sendFrom⟩
theorem lkRX6_60 : mLk 0 RX6 60 mX6_soonestFrom 4 := ⟨⟨by decide, by decide, by decide +kernel⟩, lwX6_soonestFrom, li_RX6, lmRX6_60, loX6_soonestFrom, lvX6_soonestFrom⟩
theorem lkRX6_64 : mLk 0 RX6 64 mX6_busyWith 2 := ⟨⟨by decide, by decide, by decide +kernel⟩, lwX6_busyWith, li_RX6, lmRX6_64, loX6_busyWith, lvX6_busyWith⟩
theorem lkRX6_68 : mLk 1 RX6 68 mJ9_max_7cf53 2 := ⟨⟨by decide, by decide, by decide +kernel⟩, lwJ9_max_7cf53, li_RJ9, lmRX6_68, ltJ9_max_7cf53⟩
theorem lkRX6_73 : mLk 0 RX6 73 mX6_putBack 3 := ⟨⟨by decide, by decide, by decide +kernel⟩, lwX6_putBack, li_RX6, lmRX6_73, loX6_putBack, lvX6_putBack⟩
theorem lkRX6_78 : mLk 1 RX6 78 mJ9_min_7cf53 2 := ⟨⟨by decide, by decide, by decide +kernel⟩, lwJ9_min_7cf53, li_RJ9, lmRX6_78, ltJ9_min_7cf53⟩
theorem lkRX6_81 : mLk 0 RX6 81 mX6_findNeighbours 0 := ⟨⟨by decide, by decide, by decide +kernel⟩, lwX6_findNeighbours, li_RX6, lmRX6_81, loX6_findNeighbours, lvX6_findNeighbours⟩
theorem lkRX6_84 : mLk 0 RX6 84 mX6_countSteps 0 := ⟨⟨by decide, by decide, by decide +kernel⟩, lwX6_countSteps, li_RX6, lmRX6_84, loX6_countSteps, lvX6_countSteps⟩
theorem lkRX6_87 : mLk 0 RX6 87 mX6_firstOnTheWay 1 := ⟨⟨by decide, by decide, by decide +kernel⟩, lwX6_firstOnTheWay, li_RX6, lmRX6_87, loX6_firstOnTheWay, lvX6_firstOnTheWay⟩
theorem lkRX6_91 : mLk 0 RX6 91 mX6_afterKnock 2 := ⟨⟨by decide, by decide, by decide +kernel⟩, lwX6_afterKnock, li_RX6, lmRX6_91, loX6_afterKnock, lvX6_afterKnock⟩
theorem lkRX6_94 : mLk 0 RX6 94 mX6_isBefore 2 := ⟨⟨by decide, by decide, by decide +kernel⟩, lwX6_isBefore, li_RX6, lmRX6_94, loX6_isBefore, lvX6_isBefore⟩
theorem lkRX6_98 : mLk 1 RX6 98 mX6_bitOf 1 := ⟨⟨by decide, by decide, by decide +kernel⟩, lwX6_bitOf, li_RX6, lmRX6_98, ltX6_bitOf⟩
theorem lkRX6_101 : mLk 0 RX6 101 mX6_fewestFrom 1 := ⟨⟨by decide, by decide, by decide +kernel⟩, lwX6_fewestFrom, li_RX6, lmRX6_101, loX6_fewestFrom, lvX6_fewestFrom⟩
theorem lkRX7_34 : mLk 0 RX7 34 mX7_shareByRests 2 := ⟨⟨by decide, by decide, by decide +kernel⟩, lwX7_shareByRests, li_RX7, lmRX7_34, loX7_shareByRests, lvX7_shareByRests⟩
theorem lkRX7_38 : mLk 0 RX7 38 mX7_shareOneByOne 1 := ⟨⟨by decide, by decide, by decide +kernel⟩, lwX7_shareOneByOne, li_RX7, lmRX7_38, loX7_shareOneByOne, lvX7_shareOneByOne⟩
theorem lkRX7_42 : mLk 0 RX7 42 mX7_share 2 := ⟨⟨by decide, by decide, by decide +kernel⟩, lwX7_share, li_RX7, lmRX7_42, loX7_share, lvX7_share⟩
theorem lkRX7_45 : mLk 0 RX7 45 mX7_isChanged 0 := ⟨⟨by decide, by decide, by decide +kernel⟩, lwX7_isChanged, li_RX7, lmRX7_45, loX7_isChanged, lvX7_isChanged⟩
theorem lkRX7_49 : mLk 0 RX7 49 mX7_greatestRest 0 := ⟨⟨by decide, by decide, by decide +kernel⟩, lwX7_greatestRest, li_RX7, lmRX7_49, loX7_greatestRest, lvX7_greatestRest⟩
theorem lkRX8_30 : mLk 4 RX8 30 mX0_init 0 := ⟨⟨by decide, by decide, by decide +kernel⟩, lwX0_init, li_RX0, ⟨"StoneCensus", by decide +kernel⟩, loX0_init, rfl, rfl⟩
theorem lkRX8_55 : mLk 0 RX8 55 mX0_clear 0 := ⟨⟨by decide, by decide, by decide +kernel⟩, lwX0_clear, li_RX0, lmRX8_55, loX0_clear, lvX0_clear⟩
theorem lkRX8_61 : mLk 1 RX8 61 mJ7_fill_53178 2 := ⟨⟨by decide, by decide, by decide +kernel⟩, lwJ7_fill_53178, li_RJ7, lmRX8_61, ltJ7_fill_53178⟩
theorem lkRX8_73 : mLk 0 RX8 73 mX8_stonesHiding 3 := ⟨⟨by decide, by decide, by decide +kernel⟩, lwX8_stonesHiding, li_RX8, lmRX8_73, loX8_stonesHiding, lvX8_stonesHiding⟩
theorem lkRX8_80 : mLk 2 RX8 80 mX11_limited 3 := ⟨⟨by decide, by decide, by decide +kernel⟩, lwX11_limited, li_RX11, ⟨"StoneCensus", by decide +kernel⟩, ltX11_limited⟩
theorem lkRX8_84 : mLk 0 RX8 84 mX8_setValues 6 := ⟨⟨by decide, by decide, by decide +kernel⟩, lwX8_setValues, li_RX8, lmRX8_84, loX8_setValues, lvX8_setValues⟩
theorem lkRX8_88 : mLk 0 RX8 88 mX0_work 1 := ⟨⟨by decide, by decide, by decide +kernel⟩, lwX0_work, li_RX0, lmRX8_88, loX0_work, lvX0_work⟩
theorem lkRX8_92 : mLk 0 RX8 92 mX8_stonesOf 2 := ⟨⟨by decide, by decide, by decide +kernel⟩, lwX8_stonesOf, li_RX8, lmRX8_92, loX8_stonesOf, lvX8_stonesOf⟩
theorem lkRX8_96 : mLk 0 RX8 96 mX8_sendMagpie 1 := ⟨⟨by decide, by decide, by decide +kernel⟩, lwX8_sendMagpie, li_RX8, lmRX8_96, loX8_sendMagpie, lvX8_sendMagpie⟩
theorem lkRX8_100 : mLk 0 RX8 100 mX8_growHouse 2 := ⟨⟨by decide, by decide, by decide +kernel⟩, lwX8_growHouse, li_RX8, lmRX8_100, loX8_growHouse, lvX8_growHouse⟩
theorem lkRX8_103 : mLk 1 RX8 103 mJ9_min_7cf53 2 := ⟨⟨by decide, by decide, by decide +kernel⟩, lwJ9_min_7cf53, li_RJ9, lmRX8_103, ltJ9_min_7cf53⟩
theorem lkRX10_25 : mLk 4 RX10 25 mX9_init 0 := ⟨⟨by decide, by decide, by decide +kernel⟩, lwX9_init, li_RX9, ⟨"StoneCensus", by decide +kernel⟩, loX9_init, rfl, rfl⟩
theorem lkRX10_50 : mLk 0 RX10 50 mX10_takeReports 1 := ⟨⟨by decide, by decide, by decide +kernel⟩, lwX10_takeReports, li_RX10, lmRX10_50, loX10_takeReports, lvX10_takeReports⟩
theorem lkRX10_54 : mLk 0 RX10 54 mX9_list 2 := ⟨⟨by decide, by decide, by decide +kernel⟩, lwX9_list, li_RX9, lmRX10_54, loX9_list, lvX9_list⟩
theorem lkRX10_61 : mLk 1 RX10 61 mJ7_fill_53178 2 := ⟨⟨by decide, by decide, by decide +kernel⟩, lwJ7_fill_53178, li_RJ7, lmRX10_61, ltJ7_fill_53178⟩
theorem lkRX10_70 : mLk 0 RX10 70 mX10_countFrom 1 := ⟨⟨by decide, by decide, by decide +kernel⟩, lwX10_countFrom, li_RX10, lmRX10_70, loX10_countFrom, lvX10_countFrom⟩
theorem lkRX10_88 : mLk 1 RX10 88 mJ9_max_7cf53 2 := ⟨⟨by decide, by decide, by decide +kernel⟩, lwJ9_max_7cf53, li_RJ9, lmRX10_88, ltJ9_max_7cf53⟩
theorem lkRX10_96 : mLk 1 RX10 96 mJ9_min_7cf53 2 := ⟨⟨by decide, by decide, by decide +kernel⟩, lwJ9_min_7cf53, li_RJ9, lmRX10_96, ltJ9_min_7cf53⟩
theorem lkRX10_99 : mLk 0 RX10 99 mX10_highest 1 := ⟨⟨by decide, by decide, by decide +kernel⟩, lwX10_highest, li_RX10, lmRX10_99, loX10_highest, lvX10_highest⟩
theorem lkRX10_102 : mLk 0 RX10 102 mX10_lowest 1 := ⟨⟨by decide, by decide, by decide +kernel⟩, lwX10_lowest, li_RX10, lmRX10_102, loX10_lowest, lvX10_lowest⟩
theorem lkRX10_105 : mLk 0 RX10 105 mX9_setHeads 2 := ⟨⟨by decide, by decide, by decide +kernel⟩, lwX9_setHeads, li_RX9, lmRX10_105, loX9_setHeads, lvX9_setHeads⟩
theorem lkRX10_118 : mLk 0 RX10 118 mX10_leftBySeeing 1 := ⟨⟨by decide, by decide, by decide +kernel⟩, lwX10_leftBySeeing, li_RX10, lmRX10_118, loX10_leftBySeeing, lvX10_leftBySeeing⟩
theorem lkRX10_121 : mLk 0 RX10 121 mX10_findTelling 0 := ⟨⟨by decide, by decide, by decide +kernel⟩, lwX10_findTelling, li_RX10, lmRX10_121, loX10_findTelling, lvX10_findTelling⟩
theorem lkRX10_128 : mLk 0 RX10 128 mX10_gatherFrom 2 := ⟨⟨by decide, by decide, by decide +kernel⟩, lwX10_gatherFrom, li_RX10, lmRX10_128, loX10_gatherFrom, lvX10_gatherFrom⟩
theorem lkRX10_131 : mLk 1 RX10 131 mJ6_bitCount_0f7a4 1 := ⟨⟨by decide, by decide, by decide +kernel⟩, lwJ6_bitCount_0f7a4, li_RJ6, lmRX10_131, ltJ6_bitCount_0f7a4⟩
theorem lkRX10_136 : mLk 0 RX10 136 mX10_tellsApart 1 := ⟨⟨by decide, by decide, by decide +kernel⟩, lwX10_tellsApart, li_RX10, lmRX10_136, loX10_tellsApart, lvX10_tellsApart⟩
theorem lkRX10_143 : mLk 0 RX10 143 mX10_partOf 2 := ⟨⟨by decide, by decide, by decide +kernel⟩, lwX10_partOf, li_RX10, lmRX10_143, loX10_partOf, lvX10_partOf⟩
theorem lkRX11_9 : mLk 4 RX11 9 mX4_init 0 := ⟨⟨by decide, by decide, by decide +kernel⟩, lwX4_init, li_RX4, ⟨"StoneCensus", by decide +kernel⟩, loX4_init, rfl, rfl⟩
theorem lkRX11_18 : mLk 4 RX11 18 mX8_init 0 := ⟨⟨by decide, by decide, by decide +kernel⟩, lwX8_init, li_RX8, ⟨"StoneCensus", by decide +kernel⟩, loX8_init, rfl, rfl⟩
theorem lkRX11_35 : mLk 4 RX11 35 mX2_init 0 := ⟨⟨by decide, by decide, by decide +kernel⟩, lwX2_init, li_RX2, ⟨"StoneCensus", by decide +kernel⟩, loX2_init, rfl, rfl⟩
theorem lkRX11_42 : mLk 4 RX11 42 mX1_init 0 := ⟨⟨by decide, by decide, by decide +kernel⟩, lwX1_init, li_RX1, ⟨"StoneCensus", by decide +kernel⟩, loX1_init, rfl, rfl⟩
theorem lkRX11_49 : mLk 4 RX11 49 mX6_init 0 := ⟨⟨by decide, by decide, by decide +kernel⟩, lwX6_init, li_RX6, ⟨"StoneCensus", by decide +kernel⟩, loX6_init, rfl, rfl⟩
theorem lkRX11_56 : mLk 4 RX11 56 mX7_init 0 := ⟨⟨by decide, by decide, by decide +kernel⟩, lwX7_init, li_RX7, ⟨"StoneCensus", by decide +kernel⟩, loX7_init, rfl, rfl⟩
theorem lkRX11_63 : mLk 4 RX11 63 mX5_init 0 := ⟨⟨by decide, by decide, by decide +kernel⟩, lwX5_init, li_RX5, ⟨"StoneCensus", by decide +kernel⟩, loX5_init, rfl, rfl⟩
theorem lkRX11_70 : mLk 4 RX11 70 mX10_init 0 := ⟨⟨by decide, by decide, by decide +kernel⟩, lwX10_init, li_RX10, ⟨"StoneCensus", by decide +kernel⟩, loX10_init, rfl, rfl⟩
theorem lkRX11_77 : mLk 4 RX11 77 mX3_init 0 := ⟨⟨by decide, by decide, by decide +kernel⟩, lwX3_init, li_RX3, ⟨"StoneCensus", by decide +kernel⟩, loX3_init, rfl, rfl⟩
theorem lkRX11_89 : mLk 0 RX11 89 mX4_append 1 := ⟨⟨by decide, by decide, by decide +kernel⟩, lwX4_append, li_RX4, lmRX11_89, loX4_append, lvX4_append⟩
theorem lkRX11_93 : mLk 0 RX11 93 mX4_readAll 1 := ⟨⟨by decide, by decide, by decide +kernel⟩, lwX4_readAll, li_RX4, lmRX11_93, loX4_readAll, lvX4_readAll⟩
theorem lkRX11_97 : mLk 0 RX11 97 mX8_begin 1 := ⟨⟨by decide, by decide, by decide +kernel⟩, lwX8_begin, li_RX8, lmRX11_97, loX8_begin, lvX8_begin⟩
theorem lkRX11_101 : mLk 0 RX11 101 mX2_startFrom 1 := ⟨⟨by decide, by decide, by decide +kernel⟩, lwX2_startFrom, li_RX2, lmRX11_101, loX2_startFrom, lvX2_startFrom⟩
theorem lkRX11_104 : mLk 0 RX11 104 mX2_emptyBoxes 0 := ⟨⟨by decide, by decide, by decide +kernel⟩, lwX2_emptyBoxes, li_RX2, lmRX11_104, loX2_emptyBoxes, lvX2_emptyBoxes⟩
theorem lkRX11_110 : mLk 0 RX11 110 mX10_forget 0 := ⟨⟨by decide, by decide, by decide +kernel⟩, lwX10_forget, li_RX10, lmRX11_110, loX10_forget, lvX10_forget⟩
theorem lkRX11_113 : mLk 0 RX11 113 mX3_forget 0 := ⟨⟨by decide, by decide, by decide +kernel⟩, lwX3_forget, li_RX3, lmRX11_113, loX3_forget, lvX3_forget⟩
theorem lkRX11_124 : mLk 0 RX11 124 mX11_isHouse 1 := ⟨⟨by decide, by decide, by decide +kernel⟩, lwX11_isHouse, li_RX11, lmRX11_124, loX11_isHouse, lvX11_isHouse⟩
theorem lkRX11_137 : mLk 0 RX11 137 mX8_stonesOf 2 := ⟨⟨by decide, by decide, by decide +kernel⟩, lwX8_stonesOf, li_RX8, lmRX11_137, loX8_stonesOf, lvX8_stonesOf⟩
theorem lkRX11_141 : mLk 0 RX11 141 mX8_taxOf 3 := ⟨⟨by decide, by decide, by decide +kernel⟩, lwX8_taxOf, li_RX8, lmRX11_141, loX8_taxOf, lvX8_taxOf⟩
theorem lkRX11_145 : mLk 0 RX11 145 mX11_sumOf 1 := ⟨⟨by decide, by decide, by decide +kernel⟩, lwX11_sumOf, li_RX11, lmRX11_145, loX11_sumOf, lvX11_sumOf⟩
theorem lkRX11_149 : mLk 0 RX11 149 mX2_keep 1 := ⟨⟨by decide, by decide, by decide +kernel⟩, lwX2_keep, li_RX2, lmRX11_149, loX2_keep, lvX2_keep⟩
theorem lkRX11_152 : mLk 0 RX11 152 mX11_leaveOne 1 := ⟨⟨by decide, by decide, by decide +kernel⟩, lwX11_leaveOne, li_RX11, lmRX11_152, loX11_leaveOne, lvX11_leaveOne⟩
theorem lkRX11_155 : mLk 0 RX11 155 mX8_passSummer 1 := ⟨⟨by decide, by decide, by decide +kernel⟩, lwX8_passSummer, li_RX8, lmRX11_155, loX8_passSummer, lvX8_passSummer⟩
theorem lkRX11_158 : mLk 0 RX11 158 mX11_allBowls 1 := ⟨⟨by decide, by decide, by decide +kernel⟩, lwX11_allBowls, li_RX11, lmRX11_158, loX11_allBowls, lvX11_allBowls⟩
theorem lkRX11_162 : mLk 0 RX11 162 mX2_stepBack 1 := ⟨⟨by decide, by decide, by decide +kernel⟩, lwX2_stepBack, li_RX2, lmRX11_162, loX2_stepBack, lvX2_stepBack⟩
theorem lkRX11_166 : mLk 0 RX11 166 mX2_stepOn 1 := ⟨⟨by decide, by decide, by decide +kernel⟩, lwX2_stepOn, li_RX2, lmRX11_166, loX2_stepOn, lvX2_stepOn⟩
theorem lkRX11_169 : mLk 1 RX11 169 mX11_isWithin 3 := ⟨⟨by decide, by decide, by decide +kernel⟩, lwX11_isWithin, li_RX11, lmRX11_169, ltX11_isWithin⟩
theorem lkRX11_173 : mLk 0 RX11 173 mX11_foresee 1 := ⟨⟨by decide, by decide, by decide +kernel⟩, lwX11_foresee, li_RX11, lmRX11_173, loX11_foresee, lvX11_foresee⟩
theorem lkRX11_176 : mLk 0 RX11 176 mX1_look 2 := ⟨⟨by decide, by decide, by decide +kernel⟩, lwX1_look, li_RX1, lmRX11_176, loX1_look, lvX1_look⟩
theorem lkRX11_180 : mLk 0 RX11 180 mX1_choose 1 := ⟨⟨by decide, by decide, by decide +kernel⟩, lwX1_choose, li_RX1, lmRX11_180, loX1_choose, lvX1_choose⟩
theorem lkRX11_186 : mLk 0 RX11 186 mX11_lay 2 := ⟨⟨by decide, by decide, by decide +kernel⟩, lwX11_lay, li_RX11, lmRX11_186, loX11_lay, lvX11_lay⟩
theorem lkRX11_190 : mLk 0 RX11 190 mX1_leastTax 0 := ⟨⟨by decide, by decide, by decide +kernel⟩, lwX1_leastTax, li_RX1, lmRX11_190, loX1_leastTax, lvX1_leastTax⟩
theorem lkRX11_194 : mLk 0 RX11 194 mX6_look 2 := ⟨⟨by decide, by decide, by decide +kernel⟩, lwX6_look, li_RX6, lmRX11_194, loX6_look, lvX6_look⟩
theorem lkRX11_195 : mLk 0 RX11 195 mX6_fewestBy 1 := ⟨⟨by decide, by decide, by decide +kernel⟩, lwX6_fewestBy, li_RX6, lmRX11_195, loX6_fewestBy, lvX6_fewestBy⟩
theorem lkRX11_201 : mLk 0 RX11 201 mX6_firstNoon 1 := ⟨⟨by decide, by decide, by decide +kernel⟩, lwX6_firstNoon, li_RX6, lmRX11_201, loX6_firstNoon, lvX6_firstNoon⟩
theorem lkRX11_204 : mLk 0 RX11 204 mX7_look 2 := ⟨⟨by decide, by decide, by decide +kernel⟩, lwX7_look, li_RX7, lmRX11_204, loX7_look, lvX7_look⟩
theorem lkRX11_206 : mLk 0 RX11 206 mX7_share 2 := ⟨⟨by decide, by decide, by decide +kernel⟩, lwX7_share, li_RX7, lmRX11_206, loX7_share, lvX7_share⟩
theorem lkRX11_213 : mLk 0 RX11 213 mX7_changedByOne 2 := ⟨⟨by decide, by decide, by decide +kernel⟩, lwX7_changedByOne, li_RX7, lmRX11_213, loX7_changedByOne, lvX7_changedByOne⟩
theorem lkRX11_217 : mLk 0 RX11 217 mX7_firstLoser 1 := ⟨⟨by decide, by decide, by decide +kernel⟩, lwX7_firstLoser, li_RX7, lmRX11_217, loX7_firstLoser, lvX7_firstLoser⟩
theorem lkRX11_220 : mLk 0 RX11 220 mX11_sum 1 := ⟨⟨by decide, by decide, by decide +kernel⟩, lwX11_sum, li_RX11, lmRX11_220, loX11_sum, lvX11_sum⟩
theorem lkRX11_229 : mLk 0 RX11 229 mX11_fullest 1 := ⟨⟨by decide, by decide, by decide +kernel⟩, lwX11_fullest, li_RX11, lmRX11_229, loX11_fullest, lvX11_fullest⟩
theorem lkRX11_232 : mLk 0 RX11 232 mX6_planKnocks 0 := ⟨⟨by decide, by decide, by decide +kernel⟩, lwX6_planKnocks, li_RX6, lmRX11_232, loX6_planKnocks, lvX6_planKnocks⟩
theorem lkRX11_241 : mLk 0 RX11 241 mX5_add 4 := ⟨⟨by decide, by decide, by decide +kernel⟩, lwX5_add, li_RX5, lmRX11_241, loX5_add, lvX5_add⟩
theorem lkRX11_245 : mLk 0 RX11 245 mX5_takeBack 2 := ⟨⟨by decide, by decide, by decide +kernel⟩, lwX5_takeBack, li_RX5, lmRX11_245, loX5_takeBack, lvX5_takeBack⟩
theorem lkRX11_250 : mLk 0 RX11 250 mX11_learn 1 := ⟨⟨by decide, by decide, by decide +kernel⟩, lwX11_learn, li_RX11, lmRX11_250, loX11_learn, lvX11_learn⟩
theorem lkRX11_256 : mLk 0 RX11 256 mX10_fewestIn 1 := ⟨⟨by decide, by decide, by decide +kernel⟩, lwX10_fewestIn, li_RX10, lmRX11_256, loX10_fewestIn, lvX10_fewestIn⟩
theorem lkRX11_259 : mLk 0 RX11 259 mX10_mostIn 1 := ⟨⟨by decide, by decide, by decide +kernel⟩, lwX10_mostIn, li_RX10, lmRX11_259, loX10_mostIn, lvX10_mostIn⟩
theorem lkRX11_262 : mLk 0 RX11 262 mX5_countingAt 1 := ⟨⟨by decide, by decide, by decide +kernel⟩, lwX5_countingAt, li_RX5, lmRX11_262, loX5_countingAt, lvX5_countingAt⟩
theorem lkRX11_265 : mLk 0 RX11 265 mX3_learn 3 := ⟨⟨by decide, by decide, by decide +kernel⟩, lwX3_learn, li_RX3, lmRX11_265, loX3_learn, lvX3_learn⟩
theorem lkRX11_274 : mLk 0 RX11 274 mX10_bestToSee 0 := ⟨⟨by decide, by decide, by decide +kernel⟩, lwX10_bestToSee, li_RX10, lmRX11_274, loX10_bestToSee, lvX10_bestToSee⟩
theorem lkRX11_277 : mLk 0 RX11 277 mX10_leftBySeeing 1 := ⟨⟨by decide, by decide, by decide +kernel⟩, lwX10_leftBySeeing, li_RX10, lmRX11_277, loX10_leftBySeeing, lvX10_leftBySeeing⟩
theorem lkRX11_280 : mLk 0 RX11 280 mX10_tellingSet 0 := ⟨⟨by decide, by decide, by decide +kernel⟩, lwX10_tellingSet, li_RX10, lmRX11_280, loX10_tellingSet, lvX10_tellingSet⟩
theorem lkRX11_283 : mLk 1 RX11 283 mJ6_bitCount_0f7a4 1 := ⟨⟨by decide, by decide, by decide +kernel⟩, lwJ6_bitCount_0f7a4, li_RJ6, lmRX11_283, ltJ6_bitCount_0f7a4⟩
theorem lkRX11_292 : mLk 1 RX11 292 mX11_commonDivisor 2 := ⟨⟨by decide, by decide, by decide +kernel⟩, lwX11_commonDivisor, li_RX11, lmRX11_292, ltX11_commonDivisor⟩
theorem lkRX11_295 : mLk 0 RX11 295 mX2_fillBox 2 := ⟨⟨by decide, by decide, by decide +kernel⟩, lwX2_fillBox, li_RX2, lmRX11_295, loX2_fillBox, lvX2_fillBox⟩
theorem lkRX11_303 : mLk 0 RX11 303 mX2_openBox 2 := ⟨⟨by decide, by decide, by decide +kernel⟩, lwX2_openBox, li_RX2, lmRX11_303, loX2_openBox, lvX2_openBox⟩
theorem lkRX11_312 : mLk 0 RX11 312 mX8_unitsOfLaws 0 := ⟨⟨by decide, by decide, by decide +kernel⟩, lwX8_unitsOfLaws, li_RX8, lmRX11_312, loX8_unitsOfLaws, lvX8_unitsOfLaws⟩
theorem lkRX11_315 : mLk 1 RX11 315 mJ9_min_7cf53 2 := ⟨⟨by decide, by decide, by decide +kernel⟩, lwJ9_min_7cf53, li_RJ9, lmRX11_315, ltJ9_min_7cf53⟩
theorem lkRX11_320 : mLk 1 RX11 320 mJ9_max_7cf53 2 := ⟨⟨by decide, by decide, by decide +kernel⟩, lwJ9_max_7cf53, li_RJ9, lmRX11_320, ltJ9_max_7cf53⟩
theorem lkRX11_323 : mLk 0 RX11 323 mX11_house 2 := ⟨⟨by decide, by decide, by decide +kernel⟩, lwX11_house, li_RX11, lmRX11_323, loX11_house, lvX11_house⟩
theorem lkRX11_326 : mLk 0 RX11 326 mX10_learn 3 := ⟨⟨by decide, by decide, by decide +kernel⟩, lwX10_learn, li_RX10, lmRX11_326, loX10_learn, lvX10_learn⟩
theorem lkRX12_155 : mLk 0 RX12 155 mX12_four 1 := ⟨⟨by decide, by decide, by decide +kernel⟩, lwX12_four, li_RX12, lmRX12_155, loX12_four, lvX12_four⟩
theorem lkRX12_165 : mLk 0 RX12 165 mX12_here 1 := ⟨⟨by decide, by decide, by decide +kernel⟩, lwX12_here, li_RX12, lmRX12_165, loX12_here, lvX12_here⟩
theorem lkRX12_182 : mLk 1 RX12 182 mX12_isLetter 1 := ⟨⟨by decide, by decide, by decide +kernel⟩, lwX12_isLetter, li_RX12, lmRX12_182, ltX12_isLetter⟩
theorem lkRX12_186 : mLk 1 RX12 186 mX12_isDigit 1 := ⟨⟨by decide, by decide, by decide +kernel⟩, lwX12_isDigit, li_RX12, lmRX12_186, ltX12_isDigit⟩
theorem lkRX12_189 : mLk 1 RX12 189 mX12_isSign 1 := ⟨⟨by decide, by decide, by decide +kernel⟩, lwX12_isSign, li_RX12, lmRX12_189, ltX12_isSign⟩
theorem lkRX12_225 : mLk 0 RX12 225 mX12_isOwn 0 := ⟨⟨by decide, by decide, by decide +kernel⟩, lwX12_isOwn, li_RX12, lmRX12_225, loX12_isOwn, lvX12_isOwn⟩
theorem lkRX12_229 : mLk 0 RX12 229 mX12_isWord 1 := ⟨⟨by decide, by decide, by decide +kernel⟩, lwX12_isWord, li_RX12, lmRX12_229, loX12_isWord, lvX12_isWord⟩
theorem lkRX12_233 : mLk 0 RX12 233 mX12_wrong 1 := ⟨⟨by decide, by decide, by decide +kernel⟩, lwX12_wrong, li_RX12, lmRX12_233, loX12_wrong, lvX12_wrong⟩
theorem lkRX12_236 : mLk 0 RX12 236 mX12_token 0 := ⟨⟨by decide, by decide, by decide +kernel⟩, lwX12_token, li_RX12, lmRX12_236, loX12_token, lvX12_token⟩
theorem lkRX12_239 : mLk 0 RX12 239 mX12_want 1 := ⟨⟨by decide, by decide, by decide +kernel⟩, lwX12_want, li_RX12, lmRX12_239, loX12_want, lvX12_want⟩
theorem lkRX12_243 : mLk 0 RX12 243 mX12_toldNumber 2 := ⟨⟨by decide, by decide, by decide +kernel⟩, lwX12_toldNumber, li_RX12, lmRX12_243, loX12_toldNumber, lvX12_toldNumber⟩
theorem lkRX12_247 : mLk 0 RX12 247 mX12_told 3 := ⟨⟨by decide, by decide, by decide +kernel⟩, lwX12_told, li_RX12, lmRX12_247, loX12_told, lvX12_told⟩
theorem lkRX12_260 : mLk 1 RX12 260 mX12_tight 1 := ⟨⟨by decide, by decide, by decide +kernel⟩, lwX12_tight, li_RX12, lmRX12_260, ltX12_tight⟩
theorem lkRX12_263 : mLk 0 RX12 263 mX12_add 2 := ⟨⟨by decide, by decide, by decide +kernel⟩, lwX12_add, li_RX12, lmRX12_263, loX12_add, lvX12_add⟩
theorem lkRX12_276 : mLk 0 RX12 276 mX12_mayNot 0 := ⟨⟨by decide, by decide, by decide +kernel⟩, lwX12_mayNot, li_RX12, lmRX12_276, loX12_mayNot, lvX12_mayNot⟩
theorem lkRX12_279 : mLk 0 RX12 279 mX12_openUp 1 := ⟨⟨by decide, by decide, by decide +kernel⟩, lwX12_openUp, li_RX12, lmRX12_279, loX12_openUp, lvX12_openUp⟩
theorem lkRX12_282 : mLk 0 RX12 282 mX12_isFull 0 := ⟨⟨by decide, by decide, by decide +kernel⟩, lwX12_isFull, li_RX12, lmRX12_282, loX12_isFull, lvX12_isFull⟩
theorem lkRX12_285 : mLk 0 RX12 285 mX12_countUnit 0 := ⟨⟨by decide, by decide, by decide +kernel⟩, lwX12_countUnit, li_RX12, lmRX12_285, loX12_countUnit, lvX12_countUnit⟩
theorem lkRX12_288 : mLk 0 RX12 288 mX12_asked 0 := ⟨⟨by decide, by decide, by decide +kernel⟩, lwX12_asked, li_RX12, lmRX12_288, loX12_asked, lvX12_asked⟩
theorem lkRX12_292 : mLk 0 RX12 292 mX12_unit 0 := ⟨⟨by decide, by decide, by decide +kernel⟩, lwX12_unit, li_RX12, lmRX12_292, loX12_unit, lvX12_unit⟩
theorem lkRX12_295 : mLk 0 RX12 295 mX12_sign 0 := ⟨⟨by decide, by decide, by decide +kernel⟩, lwX12_sign, li_RX12, lmRX12_295, loX12_sign, lvX12_sign⟩
theorem lkRX12_298 : mLk 0 RX12 298 mX12_hasBracket 0 := ⟨⟨by decide, by decide, by decide +kernel⟩, lwX12_hasBracket, li_RX12, lmRX12_298, loX12_hasBracket, lvX12_hasBracket⟩
theorem lkRX12_301 : mLk 0 RX12 301 mX12_close 1 := ⟨⟨by decide, by decide, by decide +kernel⟩, lwX12_close, li_RX12, lmRX12_301, loX12_close, lvX12_close⟩
theorem lkRX12_304 : mLk 0 RX12 304 mX12_hasRelation 0 := ⟨⟨by decide, by decide, by decide +kernel⟩, lwX12_hasRelation, li_RX12, lmRX12_304, loX12_hasRelation, lvX12_hasRelation⟩
theorem lkRX12_307 : mLk 1 RX12 307 mX12_truth 1 := ⟨⟨by decide, by decide, by decide +kernel⟩, lwX12_truth, li_RX12, lmRX12_307, ltX12_truth⟩
theorem lkRX12_311 : mLk 1 RX12 311 mX12_done 3 := ⟨⟨by decide, by decide, by decide +kernel⟩, lwX12_done, li_RX12, lmRX12_311, ltX12_done⟩
theorem lkRX12_315 : mLk 0 RX12 315 mX12_isName 0 := ⟨⟨by decide, by decide, by decide +kernel⟩, lwX12_isName, li_RX12, lmRX12_315, loX12_isName, lvX12_isName⟩
theorem lkRX12_318 : mLk 0 RX12 318 mX12_find 0 := ⟨⟨by decide, by decide, by decide +kernel⟩, lwX12_find, li_RX12, lmRX12_318, loX12_find, lvX12_find⟩
theorem lkRX12_321 : mLk 0 RX12 321 mX12_option 1 := ⟨⟨by decide, by decide, by decide +kernel⟩, lwX12_option, li_RX12, lmRX12_321, loX12_option, lvX12_option⟩
theorem lkRX12_325 : mLk 0 RX12 325 mX12_readHouse 0 := ⟨⟨by decide, by decide, by decide +kernel⟩, lwX12_readHouse, li_RX12, lmRX12_325, loX12_readHouse, lvX12_readHouse⟩
theorem lkRX12_328 : mLk 0 RX12 328 mX12_formula 1 := ⟨⟨by decide, by decide, by decide +kernel⟩, lwX12_formula, li_RX12, lmRX12_328, loX12_formula, lvX12_formula⟩
theorem lkRX12_338 : mLk 0 RX12 338 mX12_readLine 0 := ⟨⟨by decide, by decide, by decide +kernel⟩, lwX12_readLine, li_RX12, lmRX12_338, loX12_readLine, lvX12_readLine⟩
theorem lkRX12_341 : mLk 0 RX12 341 mX12_readAll 0 := ⟨⟨by decide, by decide, by decide +kernel⟩, lwX12_readAll, li_RX12, lmRX12_341, loX12_readAll, lvX12_readAll⟩
theorem lkRX12_362 : mLk 1 RX12 362 mX12_isIn 3 := ⟨⟨by decide, by decide, by decide +kernel⟩, lwX12_isIn, li_RX12, lmRX12_362, ltX12_isIn⟩
theorem lkRX12_372 : mLk 0 RX12 372 mX12_askOf 6 := ⟨⟨by decide, by decide, by decide +kernel⟩, lwX12_askOf, li_RX12, lmRX12_372, loX12_askOf, lvX12_askOf⟩
theorem lkRX12_376 : mLk 0 RX12 376 mX12_worked 1 := ⟨⟨by decide, by decide, by decide +kernel⟩, lwX12_worked, li_RX12, lmRX12_376, loX12_worked, lvX12_worked⟩
theorem lkRX12_379 : mLk 1 RX12 379 mX12_bound 3 := ⟨⟨by decide, by decide, by decide +kernel⟩, lwX12_bound, li_RX12, lmRX12_379, ltX12_bound⟩
theorem lkRX12_382 : mLk 0 RX12 382 mX12_stonesOf 1 := ⟨⟨by decide, by decide, by decide +kernel⟩, lwX12_stonesOf, li_RX12, lmRX12_382, loX12_stonesOf, lvX12_stonesOf⟩
theorem lkRX12_385 : mLk 0 RX12 385 mX12_notMoreHidden 1 := ⟨⟨by decide, by decide, by decide +kernel⟩, lwX12_notMoreHidden, li_RX12, lmRX12_385, loX12_notMoreHidden, lvX12_notMoreHidden⟩
theorem lkRX12_388 : mLk 0 RX12 388 mX12_isHouse 1 := ⟨⟨by decide, by decide, by decide +kernel⟩, lwX12_isHouse, li_RX12, lmRX12_388, loX12_isHouse, lvX12_isHouse⟩
theorem lkRX12_391 : mLk 0 RX12 391 mX12_load 0 := ⟨⟨by decide, by decide, by decide +kernel⟩, lwX12_load, li_RX12, lmRX12_391, loX12_load, lvX12_load⟩
theorem lkRX12_394 : mLk 0 RX12 394 mX12_shows 1 := ⟨⟨by decide, by decide, by decide +kernel⟩, lwX12_shows, li_RX12, lmRX12_394, loX12_shows, lvX12_shows⟩
theorem lkRX12_397 : mLk 0 RX12 397 mX12_taxOf 2 := ⟨⟨by decide, by decide, by decide +kernel⟩, lwX12_taxOf, li_RX12, lmRX12_397, loX12_taxOf, lvX12_taxOf⟩
theorem lkRX12_400 : mLk 0 RX12 400 mX12_partOf 2 := ⟨⟨by decide, by decide, by decide +kernel⟩, lwX12_partOf, li_RX12, lmRX12_400, loX12_partOf, lvX12_partOf⟩
theorem lkRX12_403 : mLk 0 RX12 403 mX12_act 0 := ⟨⟨by decide, by decide, by decide +kernel⟩, lwX12_act, li_RX12, lmRX12_403, loX12_act, lvX12_act⟩
theorem lkRX12_406 : mLk 0 RX12 406 mX12_keep 0 := ⟨⟨by decide, by decide, by decide +kernel⟩, lwX12_keep, li_RX12, lmRX12_406, loX12_keep, lvX12_keep⟩
theorem lkRX12_409 : mLk 0 RX12 409 mX12_leaves 1 := ⟨⟨by decide, by decide, by decide +kernel⟩, lwX12_leaves, li_RX12, lmRX12_409, loX12_leaves, lvX12_leaves⟩
theorem lkRX12_412 : mLk 0 RX12 412 mX12_goSummer 0 := ⟨⟨by decide, by decide, by decide +kernel⟩, lwX12_goSummer, li_RX12, lmRX12_412, loX12_goSummer, lvX12_goSummer⟩
theorem lkRX12_415 : mLk 0 RX12 415 mX12_allBowls 0 := ⟨⟨by decide, by decide, by decide +kernel⟩, lwX12_allBowls, li_RX12, lmRX12_415, loX12_allBowls, lvX12_allBowls⟩
theorem lkRX12_418 : mLk 0 RX12 418 mX12_exchange 1 := ⟨⟨by decide, by decide, by decide +kernel⟩, lwX12_exchange, li_RX12, lmRX12_418, loX12_exchange, lvX12_exchange⟩
theorem lkRX12_421 : mLk 0 RX12 421 mX12_goFar 1 := ⟨⟨by decide, by decide, by decide +kernel⟩, lwX12_goFar, li_RX12, lmRX12_421, loX12_goFar, lvX12_goFar⟩
theorem lkRX12_427 : mLk 0 RX12 427 mX12_layTaxes 0 := ⟨⟨by decide, by decide, by decide +kernel⟩, lwX12_layTaxes, li_RX12, lmRX12_427, loX12_layTaxes, lvX12_layTaxes⟩
theorem lkRX12_430 : mLk 0 RX12 430 mX12_rowsOf 0 := ⟨⟨by decide, by decide, by decide +kernel⟩, lwX12_rowsOf, li_RX12, lmRX12_430, loX12_rowsOf, lvX12_rowsOf⟩
theorem lkRX12_433 : mLk 0 RX12 433 mX12_taxOfRow 1 := ⟨⟨by decide, by decide, by decide +kernel⟩, lwX12_taxOfRow, li_RX12, lmRX12_433, loX12_taxOfRow, lvX12_taxOfRow⟩
theorem lkRX12_436 : mLk 0 RX12 436 mX12_countersRows 0 := ⟨⟨by decide, by decide, by decide +kernel⟩, lwX12_countersRows, li_RX12, lmRX12_436, loX12_countersRows, lvX12_countersRows⟩
theorem lkRX12_439 : mLk 0 RX12 439 mX12_layCounters 1 := ⟨⟨by decide, by decide, by decide +kernel⟩, lwX12_layCounters, li_RX12, lmRX12_439, loX12_layCounters, lvX12_layCounters⟩
theorem lkRX12_442 : mLk 0 RX12 442 mX12_doneAt 0 := ⟨⟨by decide, by decide, by decide +kernel⟩, lwX12_doneAt, li_RX12, lmRX12_442, loX12_doneAt, lvX12_doneAt⟩
theorem lkRX12_445 : mLk 0 RX12 445 mX12_without 2 := ⟨⟨by decide, by decide, by decide +kernel⟩, lwX12_without, li_RX12, lmRX12_445, loX12_without, lvX12_without⟩
theorem lkRX12_448 : mLk 0 RX12 448 mX12_laySeats 2 := ⟨⟨by decide, by decide, by decide +kernel⟩, lwX12_laySeats, li_RX12, lmRX12_448, loX12_laySeats, lvX12_laySeats⟩
theorem lkRX12_451 : mLk 0 RX12 451 mX12_keepSeats 0 := ⟨⟨by decide, by decide, by decide +kernel⟩, lwX12_keepSeats, li_RX12, lmRX12_451, loX12_keepSeats, lvX12_keepSeats⟩
theorem lkRX12_454 : mLk 0 RX12 454 mX12_isOtherSeats 0 := ⟨⟨by decide, by decide, by decide +kernel⟩, lwX12_isOtherSeats, li_RX12, lmRX12_454, loX12_isOtherSeats, lvX12_isOtherSeats⟩
theorem lkRX12_457 : mLk 0 RX12 457 mX12_sum 1 := ⟨⟨by decide, by decide, by decide +kernel⟩, lwX12_sum, li_RX12, lmRX12_457, loX12_sum, lvX12_sum⟩
theorem lkRX12_460 : mLk 0 RX12 460 mX12_layRoad 0 := ⟨⟨by decide, by decide, by decide +kernel⟩, lwX12_layRoad, li_RX12, lmRX12_460, loX12_layRoad, lvX12_layRoad⟩
theorem lkRX12_463 : mLk 0 RX12 463 mX12_moved 1 := ⟨⟨by decide, by decide, by decide +kernel⟩, lwX12_moved, li_RX12, lmRX12_463, loX12_moved, lvX12_moved⟩
theorem lkRX12_470 : mLk 0 RX12 470 mX12_headOf 2 := ⟨⟨by decide, by decide, by decide +kernel⟩, lwX12_headOf, li_RX12, lmRX12_470, loX12_headOf, lvX12_headOf⟩
theorem lkRX12_476 : mLk 0 RX12 476 mX12_liarsOf 3 := ⟨⟨by decide, by decide, by decide +kernel⟩, lwX12_liarsOf, li_RX12, lmRX12_476, loX12_liarsOf, lvX12_liarsOf⟩
theorem lkRX12_479 : mLk 0 RX12 479 mX12_layTruths 1 := ⟨⟨by decide, by decide, by decide +kernel⟩, lwX12_layTruths, li_RX12, lmRX12_479, loX12_layTruths, lvX12_layTruths⟩
theorem lkRX12_482 : mLk 0 RX12 482 mX12_mostOf 1 := ⟨⟨by decide, by decide, by decide +kernel⟩, lwX12_mostOf, li_RX12, lmRX12_482, loX12_mostOf, lvX12_mostOf⟩
theorem lkRX12_485 : mLk 1 RX12 485 mX12_membersOf 1 := ⟨⟨by decide, by decide, by decide +kernel⟩, lwX12_membersOf, li_RX12, lmRX12_485, ltX12_membersOf⟩
theorem lkRX12_488 : mLk 0 RX12 488 mX12_tellsAll 2 := ⟨⟨by decide, by decide, by decide +kernel⟩, lwX12_tellsAll, li_RX12, lmRX12_488, loX12_tellsAll, lvX12_tellsAll⟩
theorem lkRX12_492 : mLk 1 RX12 492 mX12_common 2 := ⟨⟨by decide, by decide, by decide +kernel⟩, lwX12_common, li_RX12, lmRX12_492, ltX12_common⟩
theorem lkRX12_495 : mLk 1 RX12 495 mX12_isBox 1 := ⟨⟨by decide, by decide, by decide +kernel⟩, lwX12_isBox, li_RX12, lmRX12_495, ltX12_isBox⟩
theorem lkRL_9 : mLk 3 RL 9 mX11_init 0 := ⟨⟨by decide, by decide, by decide +kernel⟩, lwX11_init, li_RX11, lmRL_9, loX11_init, rfl, rfl⟩
theorem lkRL_12 : mLk 3 RL 12 mX12_init 0 := ⟨⟨by decide, by decide, by decide +kernel⟩, lwX12_init, li_RX12, lmRL_12, loX12_init, rfl, rfl⟩
theorem lkRL_13 : mLk 0 RL 13 mX11_feed 5 := ⟨⟨by decide, by decide, by decide +kernel⟩, lwX11_feed, li_RX11, lmRL_13, loX11_feed, lvX11_feed⟩
theorem lkRL_17 : mLk 0 RL 17 mX12_feed 5 := ⟨⟨by decide, by decide, by decide +kernel⟩, lwX12_feed, li_RX12, lmRL_17, loX12_feed, lvX12_feed⟩
theorem lkRL_18 : mLk 0 RL 18 mX11_end 1 := ⟨⟨by decide, by decide, by decide +kernel⟩, lwX11_end, li_RX11, lmRL_18, loX11_end, lvX11_end⟩
theorem lkRL_22 : mLk 0 RL 22 mX12_end 1 := ⟨⟨by decide, by decide, by decide +kernel⟩, lwX12_end, li_RX12, lmRL_22, loX12_end, lvX12_end⟩
theorem lkRL_23 : mLk 0 RL 23 mX11_province 0 := ⟨⟨by decide, by decide, by decide +kernel⟩, lwX11_province, li_RX11, lmRL_23, loX11_province, lvX11_province⟩
theorem lkRL_27 : mLk 0 RL 27 mX12_province 0 := ⟨⟨by decide, by decide, by decide +kernel⟩, lwX12_province, li_RX12, lmRL_27, loX12_province, lvX12_province⟩
theorem lkRL_28 : mLk 0 RL 28 mX11_fault 1 := ⟨⟨by decide, by decide, by decide +kernel⟩, lwX11_fault, li_RX11, lmRL_28, loX11_fault, lvX11_fault⟩
theorem lkRL_31 : mLk 0 RL 31 mX12_fault 1 := ⟨⟨by decide, by decide, by decide +kernel⟩, lwX12_fault, li_RX12, lmRL_31, loX12_fault, lvX12_fault⟩
theorem lkRL_32 : mLk 0 RL 32 mX11_house 2 := ⟨⟨by decide, by decide, by decide +kernel⟩, lwX11_house, li_RX11, lmRL_32, loX11_house, lvX11_house⟩
theorem lkRL_36 : mLk 0 RL 36 mX12_house 2 := ⟨⟨by decide, by decide, by decide +kernel⟩, lwX12_house, li_RX12, lmRL_36, loX12_house, lvX12_house⟩
theorem lkRL_37 : mLk 0 RL 37 mX11_sum 1 := ⟨⟨by decide, by decide, by decide +kernel⟩, lwX11_sum, li_RX11, lmRL_37, loX11_sum, lvX11_sum⟩
theorem lkRL_40 : mLk 0 RL 40 mX12_sum 1 := ⟨⟨by decide, by decide, by decide +kernel⟩, lwX12_sum, li_RX12, lmRL_40, loX12_sum, lvX12_sum⟩
theorem lkRL_41 : mLk 0 RL 41 mX11_comes 1 := ⟨⟨by decide, by decide, by decide +kernel⟩, lwX11_comes, li_RX11, lmRL_41, loX11_comes, lvX11_comes⟩
theorem lkRL_44 : mLk 0 RL 44 mX12_comes 1 := ⟨⟨by decide, by decide, by decide +kernel⟩, lwX12_comes, li_RX12, lmRL_44, loX12_comes, lvX12_comes⟩
theorem lkRL_45 : mLk 0 RL 45 mX11_goes 1 := ⟨⟨by decide, by decide, by decide +kernel⟩, lwX11_goes, li_RX11, lmRL_45, loX11_goes, lvX11_goes⟩
theorem lkRL_48 : mLk 0 RL 48 mX12_goes 1 := ⟨⟨by decide, by decide, by decide +kernel⟩, lwX12_goes, li_RX12, lmRL_48, loX12_goes, lvX12_goes⟩
theorem lkRL_49 : mLk 0 RL 49 mX11_moves 2 := ⟨⟨by decide, by decide, by decide +kernel⟩, lwX11_moves, li_RX11, lmRL_49, loX11_moves, lvX11_moves⟩
theorem lkRL_52 : mLk 0 RL 52 mX12_moves 2 := ⟨⟨by decide, by decide, by decide +kernel⟩, lwX12_moves, li_RX12, lmRL_52, loX12_moves, lvX12_moves⟩
theorem lkRL_53 : mLk 0 RL 53 mX11_hide 2 := ⟨⟨by decide, by decide, by decide +kernel⟩, lwX11_hide, li_RX11, lmRL_53, loX11_hide, lvX11_hide⟩
theorem lkRL_56 : mLk 0 RL 56 mX12_hide 2 := ⟨⟨by decide, by decide, by decide +kernel⟩, lwX12_hide, li_RX12, lmRL_56, loX12_hide, lvX12_hide⟩
theorem lkRL_57 : mLk 0 RL 57 mX11_steal 2 := ⟨⟨by decide, by decide, by decide +kernel⟩, lwX11_steal, li_RX11, lmRL_57, loX11_steal, lvX11_steal⟩
theorem lkRL_60 : mLk 0 RL 60 mX12_steal 2 := ⟨⟨by decide, by decide, by decide +kernel⟩, lwX12_steal, li_RX12, lmRL_60, loX12_steal, lvX12_steal⟩
theorem lkRL_61 : mLk 0 RL 61 mX11_summer 0 := ⟨⟨by decide, by decide, by decide +kernel⟩, lwX11_summer, li_RX11, lmRL_61, loX11_summer, lvX11_summer⟩
theorem lkRL_64 : mLk 0 RL 64 mX12_summer 0 := ⟨⟨by decide, by decide, by decide +kernel⟩, lwX12_summer, li_RX12, lmRL_64, loX12_summer, lvX12_summer⟩
theorem lkRL_65 : mLk 0 RL 65 mX11_undo 0 := ⟨⟨by decide, by decide, by decide +kernel⟩, lwX11_undo, li_RX11, lmRL_65, loX11_undo, lvX11_undo⟩
theorem lkRL_69 : mLk 0 RL 69 mX12_undo 0 := ⟨⟨by decide, by decide, by decide +kernel⟩, lwX12_undo, li_RX12, lmRL_69, loX12_undo, lvX12_undo⟩
theorem lkRL_70 : mLk 0 RL 70 mX11_redo 0 := ⟨⟨by decide, by decide, by decide +kernel⟩, lwX11_redo, li_RX11, lmRL_70, loX11_redo, lvX11_redo⟩
theorem lkRL_73 : mLk 0 RL 73 mX12_redo 0 := ⟨⟨by decide, by decide, by decide +kernel⟩, lwX12_redo, li_RX12, lmRL_73, loX12_redo, lvX12_redo⟩
theorem lkRL_74 : mLk 0 RL 74 mX11_falses 0 := ⟨⟨by decide, by decide, by decide +kernel⟩, lwX11_falses, li_RX11, lmRL_74, loX11_falses, lvX11_falses⟩
theorem lkRL_77 : mLk 0 RL 77 mX12_falses 0 := ⟨⟨by decide, by decide, by decide +kernel⟩, lwX12_falses, li_RX12, lmRL_77, loX12_falses, lvX12_falses⟩
theorem lkRL_78 : mLk 0 RL 78 mX11_will 2 := ⟨⟨by decide, by decide, by decide +kernel⟩, lwX11_will, li_RX11, lmRL_78, loX11_will, lvX11_will⟩
theorem lkRL_81 : mLk 0 RL 81 mX12_will 2 := ⟨⟨by decide, by decide, by decide +kernel⟩, lwX12_will, li_RX12, lmRL_81, loX12_will, lvX12_will⟩
theorem lkRL_82 : mLk 0 RL 82 mX11_bowls 1 := ⟨⟨by decide, by decide, by decide +kernel⟩, lwX11_bowls, li_RX11, lmRL_82, loX11_bowls, lvX11_bowls⟩
theorem lkRL_85 : mLk 0 RL 85 mX12_bowls 1 := ⟨⟨by decide, by decide, by decide +kernel⟩, lwX12_bowls, li_RX12, lmRL_85, loX12_bowls, lvX12_bowls⟩
theorem lkRL_86 : mLk 0 RL 86 mX11_leave 1 := ⟨⟨by decide, by decide, by decide +kernel⟩, lwX11_leave, li_RX11, lmRL_86, loX11_leave, lvX11_leave⟩
theorem lkRL_89 : mLk 0 RL 89 mX12_leave 1 := ⟨⟨by decide, by decide, by decide +kernel⟩, lwX12_leave, li_RX12, lmRL_89, loX12_leave, lvX12_leave⟩
theorem lkRL_90 : mLk 0 RL 90 mX11_least 0 := ⟨⟨by decide, by decide, by decide +kernel⟩, lwX11_least, li_RX11, lmRL_90, loX11_least, lvX11_least⟩
theorem lkRL_93 : mLk 0 RL 93 mX12_least 0 := ⟨⟨by decide, by decide, by decide +kernel⟩, lwX12_least, li_RX12, lmRL_93, loX12_least, lvX12_least⟩
theorem lkRL_94 : mLk 0 RL 94 mX11_rounds 1 := ⟨⟨by decide, by decide, by decide +kernel⟩, lwX11_rounds, li_RX11, lmRL_94, loX11_rounds, lvX11_rounds⟩
theorem lkRL_97 : mLk 0 RL 97 mX12_rounds 1 := ⟨⟨by decide, by decide, by decide +kernel⟩, lwX12_rounds, li_RX12, lmRL_97, loX12_rounds, lvX12_rounds⟩
theorem lkRL_98 : mLk 0 RL 98 mX11_noon 1 := ⟨⟨by decide, by decide, by decide +kernel⟩, lwX11_noon, li_RX11, lmRL_98, loX11_noon, lvX11_noon⟩
theorem lkRL_101 : mLk 0 RL 101 mX12_noon 1 := ⟨⟨by decide, by decide, by decide +kernel⟩, lwX12_noon, li_RX12, lmRL_101, loX12_noon, lvX12_noon⟩
theorem lkRL_102 : mLk 0 RL 102 mX11_missed 1 := ⟨⟨by decide, by decide, by decide +kernel⟩, lwX11_missed, li_RX11, lmRL_102, loX11_missed, lvX11_missed⟩
theorem lkRL_105 : mLk 0 RL 105 mX12_missed 1 := ⟨⟨by decide, by decide, by decide +kernel⟩, lwX12_missed, li_RX12, lmRL_105, loX12_missed, lvX12_missed⟩
theorem lkRL_106 : mLk 0 RL 106 mX11_doubled 1 := ⟨⟨by decide, by decide, by decide +kernel⟩, lwX11_doubled, li_RX11, lmRL_106, loX11_doubled, lvX11_doubled⟩
theorem lkRL_109 : mLk 0 RL 109 mX12_doubled 1 := ⟨⟨by decide, by decide, by decide +kernel⟩, lwX12_doubled, li_RX12, lmRL_109, loX12_doubled, lvX12_doubled⟩
theorem lkRL_110 : mLk 0 RL 110 mX11_seats 3 := ⟨⟨by decide, by decide, by decide +kernel⟩, lwX11_seats, li_RX11, lmRL_110, loX11_seats, lvX11_seats⟩
theorem lkRL_114 : mLk 0 RL 114 mX12_seats 3 := ⟨⟨by decide, by decide, by decide +kernel⟩, lwX12_seats, li_RX12, lmRL_114, loX12_seats, lvX12_seats⟩
theorem lkRL_115 : mLk 0 RL 115 mX11_stone 2 := ⟨⟨by decide, by decide, by decide +kernel⟩, lwX11_stone, li_RX11, lmRL_115, loX11_stone, lvX11_stone⟩
theorem lkRL_118 : mLk 0 RL 118 mX12_stone 2 := ⟨⟨by decide, by decide, by decide +kernel⟩, lwX12_stone, li_RX12, lmRL_118, loX12_stone, lvX12_stone⟩
theorem lkRL_119 : mLk 0 RL 119 mX11_loss 1 := ⟨⟨by decide, by decide, by decide +kernel⟩, lwX11_loss, li_RX11, lmRL_119, loX11_loss, lvX11_loss⟩
theorem lkRL_122 : mLk 0 RL 122 mX12_loss 1 := ⟨⟨by decide, by decide, by decide +kernel⟩, lwX12_loss, li_RX12, lmRL_122, loX12_loss, lvX12_loss⟩
theorem lkRL_123 : mLk 0 RL 123 mX11_draft 2 := ⟨⟨by decide, by decide, by decide +kernel⟩, lwX11_draft, li_RX11, lmRL_123, loX11_draft, lvX11_draft⟩
theorem lkRL_126 : mLk 0 RL 126 mX12_draft 2 := ⟨⟨by decide, by decide, by decide +kernel⟩, lwX12_draft, li_RX12, lmRL_126, loX12_draft, lvX12_draft⟩
theorem lkRL_127 : mLk 0 RL 127 mX11_chase 0 := ⟨⟨by decide, by decide, by decide +kernel⟩, lwX11_chase, li_RX11, lmRL_127, loX11_chase, lvX11_chase⟩
theorem lkRL_130 : mLk 0 RL 130 mX12_chase 0 := ⟨⟨by decide, by decide, by decide +kernel⟩, lwX12_chase, li_RX12, lmRL_130, loX12_chase, lvX12_chase⟩
theorem lkRL_131 : mLk 0 RL 131 mX11_marks 3 := ⟨⟨by decide, by decide, by decide +kernel⟩, lwX11_marks, li_RX11, lmRL_131, loX11_marks, lvX11_marks⟩
theorem lkRL_134 : mLk 0 RL 134 mX12_marks 3 := ⟨⟨by decide, by decide, by decide +kernel⟩, lwX12_marks, li_RX12, lmRL_134, loX12_marks, lvX12_marks⟩
theorem lkRL_135 : mLk 0 RL 135 mX11_lies 1 := ⟨⟨by decide, by decide, by decide +kernel⟩, lwX11_lies, li_RX11, lmRL_135, loX11_lies, lvX11_lies⟩
theorem lkRL_138 : mLk 0 RL 138 mX12_lies 1 := ⟨⟨by decide, by decide, by decide +kernel⟩, lwX12_lies, li_RX12, lmRL_138, loX12_lies, lvX12_lies⟩
theorem lkRL_139 : mLk 0 RL 139 mX11_report 3 := ⟨⟨by decide, by decide, by decide +kernel⟩, lwX11_report, li_RX11, lmRL_139, loX11_report, lvX11_report⟩
theorem lkRL_142 : mLk 0 RL 142 mX12_report 3 := ⟨⟨by decide, by decide, by decide +kernel⟩, lwX12_report, li_RX12, lmRL_142, loX12_report, lvX12_report⟩
theorem lkRL_143 : mLk 0 RL 143 mX11_untell 1 := ⟨⟨by decide, by decide, by decide +kernel⟩, lwX11_untell, li_RX11, lmRL_143, loX11_untell, lvX11_untell⟩
theorem lkRL_147 : mLk 0 RL 147 mX12_untell 1 := ⟨⟨by decide, by decide, by decide +kernel⟩, lwX12_untell, li_RX12, lmRL_147, loX12_untell, lvX12_untell⟩
theorem lkRL_148 : mLk 0 RL 148 mX11_later 1 := ⟨⟨by decide, by decide, by decide +kernel⟩, lwX11_later, li_RX11, lmRL_148, loX11_later, lvX11_later⟩
theorem lkRL_151 : mLk 0 RL 151 mX12_later 1 := ⟨⟨by decide, by decide, by decide +kernel⟩, lwX12_later, li_RX12, lmRL_151, loX12_later, lvX12_later⟩
theorem lkRL_152 : mLk 0 RL 152 mX11_truths 1 := ⟨⟨by decide, by decide, by decide +kernel⟩, lwX11_truths, li_RX11, lmRL_152, loX11_truths, lvX11_truths⟩
theorem lkRL_155 : mLk 0 RL 155 mX12_truths 1 := ⟨⟨by decide, by decide, by decide +kernel⟩, lwX12_truths, li_RX12, lmRL_155, loX12_truths, lvX12_truths⟩
theorem lkRL_156 : mLk 0 RL 156 mX11_range 3 := ⟨⟨by decide, by decide, by decide +kernel⟩, lwX11_range, li_RX11, lmRL_156, loX11_range, lvX11_range⟩
theorem lkRL_159 : mLk 0 RL 159 mX12_range 3 := ⟨⟨by decide, by decide, by decide +kernel⟩, lwX12_range, li_RX12, lmRL_159, loX12_range, lvX12_range⟩
theorem lkRL_160 : mLk 0 RL 160 mX11_liars 1 := ⟨⟨by decide, by decide, by decide +kernel⟩, lwX11_liars, li_RX11, lmRL_160, loX11_liars, lvX11_liars⟩
theorem lkRL_163 : mLk 0 RL 163 mX12_liars 1 := ⟨⟨by decide, by decide, by decide +kernel⟩, lwX12_liars, li_RX12, lmRL_163, loX12_liars, lvX12_liars⟩
theorem lkRL_164 : mLk 0 RL 164 mX11_knock 2 := ⟨⟨by decide, by decide, by decide +kernel⟩, lwX11_knock, li_RX11, lmRL_164, loX11_knock, lvX11_knock⟩
theorem lkRL_167 : mLk 0 RL 167 mX12_knock 2 := ⟨⟨by decide, by decide, by decide +kernel⟩, lwX12_knock, li_RX12, lmRL_167, loX12_knock, lvX12_knock⟩
theorem lkRL_168 : mLk 0 RL 168 mX11_tells 2 := ⟨⟨by decide, by decide, by decide +kernel⟩, lwX11_tells, li_RX11, lmRL_168, loX11_tells, lvX11_tells⟩
theorem lkRL_171 : mLk 0 RL 171 mX12_tells 2 := ⟨⟨by decide, by decide, by decide +kernel⟩, lwX12_tells, li_RX12, lmRL_171, loX12_tells, lvX12_tells⟩
theorem lkRL_172 : mLk 0 RL 172 mX11_odds 4 := ⟨⟨by decide, by decide, by decide +kernel⟩, lwX11_odds, li_RX11, lmRL_172, loX11_odds, lvX11_odds⟩
theorem lkRL_176 : mLk 0 RL 176 mX12_odds 4 := ⟨⟨by decide, by decide, by decide +kernel⟩, lwX12_odds, li_RX12, lmRL_176, loX12_odds, lvX12_odds⟩
theorem lkRL_177 : mLk 0 RL 177 mX11_image 1 := ⟨⟨by decide, by decide, by decide +kernel⟩, lwX11_image, li_RX11, lmRL_177, loX11_image, lvX11_image⟩
theorem lkRL_180 : mLk 0 RL 180 mX12_image 1 := ⟨⟨by decide, by decide, by decide +kernel⟩, lwX12_image, li_RX12, lmRL_180, loX12_image, lvX12_image⟩
theorem lkRL_181 : mLk 0 RL 181 mX11_back 1 := ⟨⟨by decide, by decide, by decide +kernel⟩, lwX11_back, li_RX11, lmRL_181, loX11_back, lvX11_back⟩
theorem lkRL_184 : mLk 0 RL 184 mX12_back 1 := ⟨⟨by decide, by decide, by decide +kernel⟩, lwX12_back, li_RX12, lmRL_184, loX12_back, lvX12_back⟩
theorem lkRL_185 : mLk 0 RL 185 mX11_about 1 := ⟨⟨by decide, by decide, by decide +kernel⟩, lwX11_about, li_RX11, lmRL_185, loX11_about, lvX11_about⟩
theorem lkRL_188 : mLk 0 RL 188 mX12_about 1 := ⟨⟨by decide, by decide, by decide +kernel⟩, lwX12_about, li_RX12, lmRL_188, loX12_about, lvX12_about⟩
end
section
/-! The same stretches, so laid that each row is worked out once. -/
def mgoK (nL : Nat) (fin : Bool) (nM wM : Nat) : List mI → Bool → Nat → List Value → List Value → mHp → mC
  | [], ok, pc, L, st, h => (ok, pc, L, st, h)
  | q :: qs, ok, pc, L, st, h => cond (Nat.beq pc q.1) (match mDis q.2.1 nL fin nM wM q.1 q.2.2.2.1 q.2.2.2.2 ok L st h with
    | (ok', pc', L', st', h') => mgoK nL fin nM wM qs ok' pc' L' st' h') (mgo nL fin nM wM qs (mBad h))
theorem mgoK_eq {nL : Nat} {fin : Bool} {nM wM : Nat} : ∀ (qs : List mI) (ok : Bool) (pc : Nat) (L st : List Value) (h : mHp), mgoK nL fin nM wM qs ok pc L st h = mgo nL fin nM wM qs (ok, pc, L, st, h)
  | [], _, _, _, _, _ => rfl
  | q :: qs, ok, pc, L, st, h => by
    show cond (Nat.beq pc q.1) (match mst nL fin nM wM q (ok, pc, L, st, h) with
      | (ok', pc', L', st', h') => mgoK nL fin nM wM qs ok' pc' L' st' h') (mgo nL fin nM wM qs (mBad h)) = mgo nL fin nM wM qs (cond (Nat.beq pc q.1) (mst nL fin nM wM q (ok, pc, L, st, h)) (mBad h))
    cases Nat.beq pc q.1
    · rfl
    · show (match mst nL fin nM wM q (ok, pc, L, st, h) with
        | (ok', pc', L', st', h') => mgoK nL fin nM wM qs ok' pc' L' st' h') = mgo nL fin nM wM qs (mst nL fin nM wM q (ok, pc, L, st, h))
      obtain ⟨a1, a2, a3, a4, a5⟩ := mst nL fin nM wM q (ok, pc, L, st, h)
      exact mgoK_eq qs a1 a2 a3 a4 a5
section SF
variable {p : Program} {l : Launch} {e : Env} {R : Room} {s : State} {m : MethodId} {args : Array Value} {below : List Frame} {meth : Method} {c : Code} {Q : State → Prop} {cc : ByteArray} {own : String} {G : mG} {nL n0 w0 nM wM : Nat} {fin : Bool} {T : List mI}
/-- THE STRETCH RULE, the quick one -/
theorem msegK (C : mCx p R s m args meth c G cc own nL fin nM wM n0 w0) (hT : mTok cc own nL fin T) (a n : Nat) {ok : Bool} {pc : Nat} {L st : List Value} {h : mHp} {g : mC} (he : mgoK nL fin nM wM ((T.drop a).take n) ok pc L st h = g) (hok : g.1 = true) (k : mW p l e R s m args below meth c G nL n0 w0 Q g) : mW p l e R s m args below meth c G nL n0 w0 Q (ok, pc, L, st, h) :=
  mseg C hT a n ((mgoK_eq _ _ _ _ _ _).symm.trans he) hok k
end SF
end
section
/-! THE CELLS behind the two constructors: 233 of them; only the two sheets of the class change places (b). -/
abbrev mT : Type := (Nat → Nat → Int32) × (Nat → Nat → Int64)
def sT (r : Nat) : mSh := cond (Nat.blt r 116) (cond (Nat.blt r 58) (cond (Nat.blt r 29) (cond (Nat.blt r 14) (cond (Nat.blt r 7) (cond (Nat.blt r 3) (cond (Nat.blt r 1) (.inl 11) (cond (Nat.blt r 2) (.inl 4) (.inr (.byte, 1600)))) (cond (Nat.blt r 5) (cond (Nat.blt r 4) (.inl 8) (.inr (.long, 5))) (.inr (.int, 5)))) (cond (Nat.blt r 10) (cond (Nat.blt r 8) (.inr (.int, 5)) (cond (Nat.blt r 9) (.inr (.int, 5)) (.inl 0))) (cond (Nat.blt r 12) (cond (Nat.blt r 11) (.inr (.int, 280)) (.inr (.int, 30))) (cond (Nat.blt r 13) (.inl 0) (.inr (.int, 280)))))) (cond (Nat.blt r 21) (cond (Nat.blt r 17) (cond (Nat.blt r 15) (.inr (.int, 30)) (cond (Nat.blt r 16) (.inl 0) (.inr (.int, 280)))) (cond (Nat.blt r 19) (cond (Nat.blt r 18) (.inr (.int, 30)) (.inr (.int, 6))) (cond (Nat.blt r 20) (.inl 8) (.inr (.long, 5))))) (cond (Nat.blt r 25) (.inr (.int, 5)) (cond (Nat.blt r 27) (cond (Nat.blt r 26) (.inl 0) (.inr (.int, 280))) (cond (Nat.blt r 28) (.inr (.int, 30)) (.inl 0)))))) (cond (Nat.blt r 43) (cond (Nat.blt r 36) (cond (Nat.blt r 32) (cond (Nat.blt r 30) (.inr (.int, 280)) (cond (Nat.blt r 31) (.inr (.int, 30)) (.inl 0))) (cond (Nat.blt r 34) (cond (Nat.blt r 33) (.inr (.int, 280)) (.inr (.int, 30))) (cond (Nat.blt r 35) (.inr (.int, 6)) (.inr (.int, 17))))) (cond (Nat.blt r 39) (cond (Nat.blt r 37) (.inr (.int, 17)) (cond (Nat.blt r 38) (.inl 2) (.inr (.array .int, 41)))) (.inr (.int, 17)))) (.inr (.int, 17)))) (cond (Nat.blt r 87) (cond (Nat.blt r 72) (.inr (.int, 17)) (cond (Nat.blt r 79) (.inr (.int, 17)) (cond (Nat.blt r 83) (cond (Nat.blt r 81) (cond (Nat.blt r 80) (.inr (.int, 17)) (.inr (.array .int, 3))) (.inr (.int, 17))) (cond (Nat.blt r 85) (cond (Nat.blt r 84) (.inr (.int, 17)) (.inr (.boolean, 3))) (cond (Nat.blt r 86) (.inl 1) (.inr (.array .int, 5))))))) (cond (Nat.blt r 101) (cond (Nat.blt r 94) (cond (Nat.blt r 90) (.inr (.int, 8)) (cond (Nat.blt r 92) (.inr (.int, 8)) (cond (Nat.blt r 93) (.inr (.array .int, 6)) (.inr (.int, 36))))) (cond (Nat.blt r 97) (.inr (.int, 36)) (cond (Nat.blt r 99) (.inr (.int, 36)) (cond (Nat.blt r 100) (.inr (.int, 5)) (.inl 6))))) (cond (Nat.blt r 108) (cond (Nat.blt r 104) (.inr (.int, 5)) (cond (Nat.blt r 106) (.inr (.int, 5)) (cond (Nat.blt r 107) (.inr (.int, 5)) (.inr (.int, 32))))) (cond (Nat.blt r 112) (cond (Nat.blt r 110) (cond (Nat.blt r 109) (.inr (.int, 8)) (.inl 7)) (.inr (.int, 5))) (cond (Nat.blt r 114) (.inr (.int, 5)) (cond (Nat.blt r 115) (.inl 5) (.inr (.int, 30))))))))) (cond (Nat.blt r 174) (cond (Nat.blt r 145) (cond (Nat.blt r 130) (cond (Nat.blt r 123) (cond (Nat.blt r 119) (.inr (.int, 30)) (cond (Nat.blt r 121) (cond (Nat.blt r 120) (.inr (.int, 30)) (.inl 10)) (cond (Nat.blt r 122) (.inr (.array .int, 5)) (.inr (.int, 8))))) (cond (Nat.blt r 126) (.inr (.int, 8)) (cond (Nat.blt r 128) (cond (Nat.blt r 127) (.inr (.int, 8)) (.inr (.int, 32))) (cond (Nat.blt r 129) (.inr (.int, 32)) (.inl 9))))) (cond (Nat.blt r 137) (cond (Nat.blt r 133) (cond (Nat.blt r 131) (.inr (.int, 32)) (cond (Nat.blt r 132) (.inr (.array .int, 5)) (.inr (.int, 16)))) (.inr (.int, 16))) (cond (Nat.blt r 141) (cond (Nat.blt r 139) (cond (Nat.blt r 138) (.inr (.int, 5)) (.inr (.int, 4096))) (cond (Nat.blt r 140) (.inr (.int, 4096)) (.inl 3))) (cond (Nat.blt r 143) (cond (Nat.blt r 142) (.inr (.array .int, 32)) (.inr (.int, 36))) (.inr (.int, 36)))))) (.inr (.int, 36))) (cond (Nat.blt r 203) (cond (Nat.blt r 188) (cond (Nat.blt r 181) (cond (Nat.blt r 177) (cond (Nat.blt r 175) (.inl 9) (cond (Nat.blt r 176) (.inr (.int, 32)) (.inr (.array .int, 5)))) (.inr (.int, 16))) (cond (Nat.blt r 184) (cond (Nat.blt r 182) (.inr (.int, 16)) (cond (Nat.blt r 183) (.inr (.int, 5)) (.inr (.int, 6)))) (cond (Nat.blt r 186) (.inr (.int, 5)) (cond (Nat.blt r 187) (.inr (.int, 8)) (.inl 12))))) (cond (Nat.blt r 195) (cond (Nat.blt r 191) (cond (Nat.blt r 189) (.inr (.int, 1600)) (cond (Nat.blt r 190) (.inr (.long, 5)) (.inr (.int, 960)))) (cond (Nat.blt r 193) (cond (Nat.blt r 192) (.inr (.int, 960)) (.inr (.int, 3))) (.inr (.int, 960)))) (cond (Nat.blt r 199) (cond (Nat.blt r 197) (cond (Nat.blt r 196) (.inr (.int, 3)) (.inr (.int, 160))) (cond (Nat.blt r 198) (.inr (.int, 64)) (.inr (.boolean, 3)))) (cond (Nat.blt r 201) (cond (Nat.blt r 200) (.inr (.boolean, 3)) (.inr (.int, 6))) (.inr (.int, 5)))))) (cond (Nat.blt r 218) (cond (Nat.blt r 210) (cond (Nat.blt r 206) (.inr (.int, 5)) (cond (Nat.blt r 208) (.inr (.int, 5)) (cond (Nat.blt r 209) (.inr (.int, 18)) (.inr (.int, 5))))) (cond (Nat.blt r 214) (cond (Nat.blt r 212) (.inr (.int, 5)) (cond (Nat.blt r 213) (.inr (.int, 720)) (.inr (.int, 40)))) (cond (Nat.blt r 216) (cond (Nat.blt r 215) (.inr (.int, 5)) (.inr (.int, 16))) (.inr (.int, 5))))) (cond (Nat.blt r 225) (cond (Nat.blt r 221) (.inr (.int, 5)) (cond (Nat.blt r 223) (.inr (.int, 32)) (cond (Nat.blt r 224) (.inr (.int, 32)) (.inr (.int, 30))))) (cond (Nat.blt r 229) (.inr (.int, 30)) (cond (Nat.blt r 231) (cond (Nat.blt r 230) (.inr (.int, 40)) (.inr (.boolean, 32768))) (cond (Nat.blt r 232) (.inr (.boolean, 3)) (.inr (.int, 54)))))))))
def rT (b : Bool) (a k : Nat) : Nat := cond (Nat.blt a 233) (cond (Nat.blt a 116) (cond (Nat.blt a 58) (cond (Nat.blt a 29) (cond (Nat.blt a 14) (cond (Nat.blt a 7) (cond (Nat.blt a 3) (cond (Nat.blt a 1) (cond (Nat.blt k 8) (cond (Nat.blt k 4) (cond (Nat.blt k 2) (cond (Nat.blt k 1) (1) (cond b 19 3)) (cond (Nat.blt k 3) (cond b 3 19) (35))) (cond (Nat.blt k 6) (cond (Nat.blt k 5) (36) (37)) (cond (Nat.blt k 7) (85) (100)))) (cond (Nat.blt k 12) (cond (Nat.blt k 10) (cond (Nat.blt k 9) (109) (114)) (cond (Nat.blt k 11) (120) (140))) (cond (Nat.blt k 14) (cond (Nat.blt k 13) (186) (NUL)) (NUL)))) (cond (Nat.blt a 2) (cond (Nat.blt k 5) (cond (Nat.blt k 2) (cond (Nat.blt k 1) (2) (NUL)) (NUL)) (NUL)) (NUL))) (cond (Nat.blt a 5) (cond (Nat.blt a 4) (cond (Nat.blt k 6) (cond (Nat.blt k 3) (cond (Nat.blt k 1) (4) (cond (Nat.blt k 2) (5) (6))) (cond (Nat.blt k 4) (7) (cond (Nat.blt k 5) (8) (9)))) (cond (Nat.blt k 9) (cond (Nat.blt k 7) (12) (cond (Nat.blt k 8) (15) (18))) (NUL))) (NUL)) (NUL))) (cond (Nat.blt a 10) (cond (Nat.blt a 8) (NUL) (cond (Nat.blt a 9) (NUL) (cond (Nat.blt k 3) (cond (Nat.blt k 1) (10) (cond (Nat.blt k 2) (11) (NUL))) (NUL)))) (cond (Nat.blt a 12) (NUL) (cond (Nat.blt a 13) (cond (Nat.blt k 3) (cond (Nat.blt k 1) (13) (cond (Nat.blt k 2) (14) (NUL))) (NUL)) (NUL))))) (cond (Nat.blt a 21) (cond (Nat.blt a 17) (cond (Nat.blt a 15) (NUL) (cond (Nat.blt a 16) (cond (Nat.blt k 3) (cond (Nat.blt k 1) (16) (cond (Nat.blt k 2) (17) (NUL))) (NUL)) (NUL))) (cond (Nat.blt a 19) (NUL) (cond (Nat.blt a 20) (cond (Nat.blt k 6) (cond (Nat.blt k 3) (cond (Nat.blt k 1) (20) (cond (Nat.blt k 2) (21) (22))) (cond (Nat.blt k 4) (23) (cond (Nat.blt k 5) (24) (25)))) (cond (Nat.blt k 9) (cond (Nat.blt k 7) (28) (cond (Nat.blt k 8) (31) (34))) (NUL))) (NUL)))) (cond (Nat.blt a 25) (NUL) (cond (Nat.blt a 27) (cond (Nat.blt a 26) (cond (Nat.blt k 3) (cond (Nat.blt k 1) (26) (cond (Nat.blt k 2) (27) (NUL))) (NUL)) (NUL)) (cond (Nat.blt a 28) (NUL) (cond (Nat.blt k 3) (cond (Nat.blt k 1) (29) (cond (Nat.blt k 2) (30) (NUL))) (NUL))))))) (cond (Nat.blt a 43) (cond (Nat.blt a 36) (cond (Nat.blt a 32) (cond (Nat.blt a 30) (NUL) (cond (Nat.blt a 31) (NUL) (cond (Nat.blt k 3) (cond (Nat.blt k 1) (32) (cond (Nat.blt k 2) (33) (NUL))) (NUL)))) (NUL)) (cond (Nat.blt a 39) (cond (Nat.blt a 37) (NUL) (cond (Nat.blt a 38) (cond (Nat.blt k 3) (cond (Nat.blt k 1) (38) (cond (Nat.blt k 2) (80) (84))) (NUL)) (cond (Nat.blt k 41) (39 + k) NUL))) (NUL))) (NUL))) (cond (Nat.blt a 87) (cond (Nat.blt a 72) (NUL) (cond (Nat.blt a 79) (NUL) (cond (Nat.blt a 83) (cond (Nat.blt a 81) (cond (Nat.blt a 80) (NUL) (cond (Nat.blt k 3) (81 + k) NUL)) (NUL)) (cond (Nat.blt a 85) (NUL) (cond (Nat.blt a 86) (cond (Nat.blt k 2) (cond (Nat.blt k 1) (86) (92)) (cond (Nat.blt k 3) (99) (NUL))) (cond (Nat.blt k 5) (87 + k) NUL)))))) (cond (Nat.blt a 101) (cond (Nat.blt a 94) (cond (Nat.blt a 90) (NUL) (cond (Nat.blt a 92) (NUL) (cond (Nat.blt a 93) (cond (Nat.blt k 6) (93 + k) NUL) (NUL)))) (cond (Nat.blt a 97) (NUL) (cond (Nat.blt a 99) (NUL) (cond (Nat.blt a 100) (NUL) (cond (Nat.blt k 5) (cond (Nat.blt k 2) (cond (Nat.blt k 1) (101) (102)) (cond (Nat.blt k 3) (103) (cond (Nat.blt k 4) (104) (105)))) (cond (Nat.blt k 7) (cond (Nat.blt k 6) (106) (107)) (cond (Nat.blt k 8) (108) (NUL)))))))) (cond (Nat.blt a 108) (NUL) (cond (Nat.blt a 112) (cond (Nat.blt a 110) (cond (Nat.blt a 109) (NUL) (cond (Nat.blt k 3) (cond (Nat.blt k 1) (110) (cond (Nat.blt k 2) (111) (112))) (cond (Nat.blt k 4) (113) (NUL)))) (NUL)) (cond (Nat.blt a 114) (NUL) (cond (Nat.blt a 115) (cond (Nat.blt k 3) (cond (Nat.blt k 1) (115) (cond (Nat.blt k 2) (116) (117))) (cond (Nat.blt k 5) (cond (Nat.blt k 4) (118) (119)) (NUL))) (NUL)))))))) (cond (Nat.blt a 174) (cond (Nat.blt a 145) (cond (Nat.blt a 130) (cond (Nat.blt a 123) (cond (Nat.blt a 119) (NUL) (cond (Nat.blt a 121) (cond (Nat.blt a 120) (NUL) (cond (Nat.blt k 8) (cond (Nat.blt k 4) (cond (Nat.blt k 2) (cond (Nat.blt k 1) (121) (127)) (cond (Nat.blt k 3) (128) (129))) (cond (Nat.blt k 6) (cond (Nat.blt k 5) (138) (139)) (NUL))) (NUL))) (cond (Nat.blt a 122) (cond (Nat.blt k 5) (122 + k) NUL) (NUL)))) (cond (Nat.blt a 126) (NUL) (cond (Nat.blt a 128) (NUL) (cond (Nat.blt a 129) (NUL) (cond (Nat.blt k 2) (cond (Nat.blt k 1) (130) (131)) (cond (Nat.blt k 3) (137) (NUL))))))) (cond (Nat.blt a 137) (cond (Nat.blt a 133) (cond (Nat.blt a 131) (NUL) (cond (Nat.blt a 132) (cond (Nat.blt k 5) (132 + k) NUL) (NUL))) (NUL)) (cond (Nat.blt a 141) (cond (Nat.blt a 139) (NUL) (cond (Nat.blt a 140) (NUL) (cond (Nat.blt k 5) (cond (Nat.blt k 2) (cond (Nat.blt k 1) (141) (174)) (cond (Nat.blt k 3) (183) (cond (Nat.blt k 4) (184) (185)))) (NUL)))) (cond (Nat.blt a 143) (cond (Nat.blt a 142) (cond (Nat.blt k 32) (142 + k) NUL) (NUL)) (NUL))))) (NUL)) (cond (Nat.blt a 203) (cond (Nat.blt a 188) (cond (Nat.blt a 181) (cond (Nat.blt a 177) (cond (Nat.blt a 175) (cond (Nat.blt k 2) (cond (Nat.blt k 1) (175) (176)) (cond (Nat.blt k 3) (182) (NUL))) (cond (Nat.blt a 176) (NUL) (cond (Nat.blt k 5) (177 + k) NUL))) (NUL)) (cond (Nat.blt a 184) (NUL) (cond (Nat.blt a 186) (NUL) (cond (Nat.blt a 187) (NUL) (cond (Nat.blt k 37) (cond (Nat.blt k 18) (cond (Nat.blt k 9) (cond (Nat.blt k 4) (cond (Nat.blt k 2) (cond (Nat.blt k 1) (188) (NUL)) (NUL)) (NUL)) (cond (Nat.blt k 13) (cond (Nat.blt k 11) (cond (Nat.blt k 10) (NUL) (189)) (cond (Nat.blt k 12) (190) (191))) (cond (Nat.blt k 15) (cond (Nat.blt k 14) (192) (193)) (cond (Nat.blt k 16) (194) (cond (Nat.blt k 17) (195) (196)))))) (cond (Nat.blt k 27) (cond (Nat.blt k 22) (cond (Nat.blt k 20) (cond (Nat.blt k 19) (197) (198)) (cond (Nat.blt k 21) (199) (NUL))) (NUL)) (cond (Nat.blt k 32) (cond (Nat.blt k 29) (cond (Nat.blt k 28) (200) (201)) (cond (Nat.blt k 30) (202) (cond (Nat.blt k 31) (203) (204)))) (cond (Nat.blt k 34) (cond (Nat.blt k 33) (205) (206)) (cond (Nat.blt k 35) (207) (NUL)))))) (cond (Nat.blt k 55) (cond (Nat.blt k 46) (cond (Nat.blt k 41) (cond (Nat.blt k 39) (NUL) (cond (Nat.blt k 40) (208) (209))) (cond (Nat.blt k 43) (cond (Nat.blt k 42) (210) (211)) (cond (Nat.blt k 44) (NUL) (cond (Nat.blt k 45) (NUL) (212))))) (cond (Nat.blt k 50) (cond (Nat.blt k 48) (NUL) (cond (Nat.blt k 49) (213) (214))) (cond (Nat.blt k 52) (cond (Nat.blt k 51) (215) (NUL)) (cond (Nat.blt k 53) (NUL) (cond (Nat.blt k 54) (216) (217)))))) (cond (Nat.blt k 64) (cond (Nat.blt k 59) (cond (Nat.blt k 57) (cond (Nat.blt k 56) (218) (219)) (cond (Nat.blt k 58) (220) (221))) (cond (Nat.blt k 61) (cond (Nat.blt k 60) (222) (223)) (cond (Nat.blt k 62) (224) (cond (Nat.blt k 63) (225) (226))))) (cond (Nat.blt k 69) (cond (Nat.blt k 66) (cond (Nat.blt k 65) (227) (228)) (cond (Nat.blt k 67) (NUL) (cond (Nat.blt k 68) (NUL) (229)))) (cond (Nat.blt k 71) (cond (Nat.blt k 70) (NUL) (230)) (cond (Nat.blt k 72) (231) (cond (Nat.blt k 73) (232) (NUL)))))))))))) (NUL)) (NUL)))) NUL
def mk (b : Bool) (S : mT) : mHp := (S.1, S.2, rT b, sT, 233, 54500)
def sI (S : mT) (a k : Nat) (v : Int32) : mT := (up2 S.1 a k v, S.2)
def sJ (S : mT) (a k : Nat) (v : Int64) : mT := (S.1, up2 S.2 a k v)
def sC (S : mT) (a d : Nat) (sp dp n : Int32) : mT := (va_up S.1 d (va_cpy (S.1 a) (S.1 d) (mIx sp) (mIx dp) (mIx n)), S.2)
/-- the sheet in use, the spare one -/
def shU (b : Bool) : Nat := cond b 19 3
def shV (b : Bool) : Nat := cond b 3 19
/-- the j-th row of an array of rows -/
def rowR (a j : Nat) : Nat := rT false a j
/-! the checks of a step, over these cells -/
def kO (r c : Nat) : Bool := kAO 233 (sT r) r c
def kI (r : Nat) (i : Int32) : Bool := kAI 233 (sT r) r i
def kB (r : Nat) (i : Int32) : Bool := kAB 233 (sT r) r i
def kJ (r : Nat) (i : Int32) : Bool := kAJ 233 (sT r) r i
def kR (r : Nat) (i : Int32) : Bool := kAR 233 (sT r) r i
def kN (r : Nat) (x : Int32) : Int32 := kNar (sT r) x
def kC (a d : Nat) (sp dp n : Int32) : Bool := (kAL 233 (sT a) a && kAL 233 (sT d) d) && cpOk (kLen (sT a)) (kLen (sT d)) sp dp n
/-! pieces of the functions that the generator prints -/
/-- go on only if all is well -/
def grd {α : Type} (b : Bool) (x : Option α) : Option α := cond b x none
theorem grd_ex {α : Type} {b : Bool} {x : Option α} {y : α} (h : grd b x = some y) : b = true ∧ x = some y := by
  cases b
  · cases h
  · exact ⟨rfl, h⟩
def bnd {α β : Type} (x : α) (f : α → β) : β := f x
theorem bnd_ex {α β : Type} {x : α} {f : α → β} {y : β} (h : bnd x f = y) : ∃ v, v = x ∧ f v = y := ⟨x, rfl, h⟩
def bndC {α β : Type} (o : Option (α × mT)) (k : α → mT → Option β) : Option β := match o with
  | none => none
  | some (x, S) => k x S
theorem bndC_ex {α β : Type} {o : Option (α × mT)} {k : α → mT → Option β} {y : β} (h : bndC o k = some y) : ∃ x S, o = some (x, S) ∧ k x S = some y := by
  cases o with
  | none => cases h
  | some q =>
    obtain ⟨x, S⟩ := q
    exact ⟨x, S, rfl, h⟩
def bndV {β : Type} (o : Option mT) (k : mT → Option β) : Option β := match o with
  | none => none
  | some S => k S
theorem bndV_ex {β : Type} {o : Option mT} {k : mT → Option β} {y : β} (h : bndV o k = some y) : ∃ S, o = some S ∧ k S = some y := by
  cases o with
  | none => cases h
  | some S => exact ⟨S, rfl, h⟩
/-- how often a loop may go round -/
def mK : Nat := 1000000
/-- the room of a method that makes nothing -/
def mR (d : Nat) : Room := { frames := d, cells := 0, slots := 0, locals := 100 * d }
def mQ (below : List Frame) (G : mG) (args : Array Value) (s : State) (b : Bool) (S : mT) (r : Option Value) : State → Prop := MQ below (mPost G (mk b S) r) args s 0 0 (mA G)
/-- CONTRACT of a method that makes nothing -/
def mOk (l : Launch) (M : mM) (d : Nat) (vs : List Value) (b : Bool) (S : mT) (r : Option Value) (S' : mT) : Prop := mMet l M d vs (mk b S) r (mk b S')
/-- fewer locals are known -/
def mSub : List Value → List Value → Prop
  | [], [] => True
  | v' :: l', v :: l => (v' = .retAddr 0 ∨ v' = v) ∧ mSub l' l
  | _, _ => False
theorem mSub_get : ∀ (l' l : List Value), mSub l' l → l'.length = l.length ∧ ∀ i w, l'.getD i (.retAddr 0) = w → (∀ n, w ≠ .retAddr n) → l.getD i (.retAddr 0) = w
  | [], [], _ => ⟨rfl, fun i w h hw => h⟩
  | v' :: l', v :: l, h => by
    obtain ⟨h1, h2⟩ := mSub_get l' l h.2
    refine ⟨by simp [h1], fun i w hi hw => ?_⟩
    cases i with
    | zero =>
      rcases h.1 with e | e
      · exact absurd (hi.symm.trans e) (hw 0)
      · exact (show v = v' from e.symm).trans hi
    | succ i => exact h2 i w hi hw
  | [], _ :: _, h => by cases h
  | _ :: _, [], h => by cases h
section SW
variable {p : Program} {l : Launch} {e : Env} {R : Room} {s : State} {m : MethodId} {args : Array Value} {below : List Frame} {meth : Method} {c : Code} {Q : State → Prop} {cc : ByteArray} {own : String} {G : mG} {nL n0 w0 nM wM : Nat} {fin : Bool} {T : List mI}
theorem mfor {ok ok' : Bool} {pc : Nat} {L L' st : List Value} {h : mHp} (hs : mSub L' L) (k : mW p l e R s m args below meth c G nL n0 w0 Q (ok', pc, L', st, h)) : mW p l e R s m args below meth c G nL n0 w0 Q (ok, pc, L, st, h) := by
  intro H locs ls hw hQ hv h0 h1
  refine k H locs ls hw hQ ⟨hv.1, hv.2.1, fun q hq => ?_⟩ h0 h1
  obtain ⟨w, g1, g2, g3, g4⟩ := mLv_mem.mp hq
  obtain ⟨e1, e2⟩ := mSub_get L' L hs
  exact hv.2.2 q (mLv_mem.mpr ⟨w, by rw [← e1]; exact g1, e2 _ _ g2 g3, g3, g4⟩)
/-- THE STRETCH RULE as the generator uses it -/
theorem msegT (C : mCx p R s m args meth c G cc own nL fin nM wM n0 w0) (hT : mTok cc own nL fin T) (a n : Nat) {ok : Bool} {pc : Nat} {L st : List Value} {h : mHp} {g : mC} (he : mgoK nL fin nM wM ((T.drop a).take n) true pc L st h = g) (hok : g.1 = true) (k : mW p l e R s m args below meth c G nL n0 w0 Q g) : mW p l e R s m args below meth c G nL n0 w0 Q (ok, pc, L, st, h) :=
  fun H locs ls hw hQ hv h0 h1 => msegK C hT a n he hok k H locs ls hw hQ hv h0 h1
end SW
end
section
/-! Math.max, Math.min: rules of their own (the model has them apart). -/
set_option maxRecDepth 100000 in
theorem mw_math : (Cond.static Lib.Math.max.name ∈ mTb ∧ Cond.code Lib.Math.max.name Lib.Math.max.code 2 (some .int) ∈ mTb) ∧ (Cond.static Lib.Math.min.name ∈ mTb ∧ Cond.code Lib.Math.min.name Lib.Math.min.code 2 (some .int) ∈ mTb) ∧ Cond.initialized "java/lang/Math" ∈ mTb := by decide +kernel
section SQ
variable {p : Program} {l : Launch} {e : Env} {R : Room} {s : State} {m : MethodId} {args : Array Value} {below : List Frame} {meth : Method} {c : Code} {Q : State → Prop} {cc : ByteArray} {own : String} {G : mG} {nL n0 w0 nM wM : Nat} {fin : Bool}
theorem so_max (C : mCx p R s m args meth c G cc own nL fin nM wM n0 w0) {i pc : Nat} {x y : Int32} {ok ok' : Bool} {L t : List Value} {h : mHp} (hd : decode cc pc = .ok (.invokestatic i, 3)) (he : Cond.methodLink own i Lib.Math.max.name ∈ mTb) (hcat : (t.map fun v => v.category).sum ≤ 8) (hn : hN h ≤ nM) (hm : hW h ≤ wM)
    (k : mW p l e R s m args below meth c G nL n0 w0 Q (ok', pc + 3, L, .int (if x < y then y else x) :: t, h)) : mW p l e R s m args below meth c G nL n0 w0 Q (ok, pc, L, .int y :: .int x :: t, h) := by
  obtain ⟨hx, hcb, hml, hown, hts, hK, hsz, hX, hnm, hfr, hfin⟩ := C
  intro H locs ls hw hQ hv h0 h1
  have h0 : n0 ≤ hN h := h0
  have h1 : w0 ≤ hW h := h1
  exact va_mmax hx hcb (by rw [hml]; exact hv.1.symm) hown (hts _ he) (hts _ mw_math.1.1) (hts _ mw_math.2.2) (hts _ mw_math.1.2) hfr.1 (by rw [mCv_cats]; omega) (by show hN h - n0 ≤ R.cells; omega) (by show hW h - w0 ≤ R.slots; omega) hd (k H locs ls hw hQ hv h0 h1)
theorem so_min (C : mCx p R s m args meth c G cc own nL fin nM wM n0 w0) {i pc : Nat} {x y : Int32} {ok ok' : Bool} {L t : List Value} {h : mHp} (hd : decode cc pc = .ok (.invokestatic i, 3)) (he : Cond.methodLink own i Lib.Math.min.name ∈ mTb) (hcat : (t.map fun v => v.category).sum ≤ 8) (hn : hN h ≤ nM) (hm : hW h ≤ wM)
    (k : mW p l e R s m args below meth c G nL n0 w0 Q (ok', pc + 3, L, .int (if y < x then y else x) :: t, h)) : mW p l e R s m args below meth c G nL n0 w0 Q (ok, pc, L, .int y :: .int x :: t, h) := by
  obtain ⟨hx, hcb, hml, hown, hts, hK, hsz, hX, hnm, hfr, hfin⟩ := C
  intro H locs ls hw hQ hv h0 h1
  have h0 : n0 ≤ hN h := h0
  have h1 : w0 ≤ hW h := h1
  exact va_mmin hx hcb (by rw [hml]; exact hv.1.symm) hown (hts _ he) (hts _ mw_math.2.1.1) (hts _ mw_math.2.2) (hts _ mw_math.2.1.2) hfr.1 (by rw [mCv_cats]; omega) (by show hN h - n0 ≤ R.cells; omega) (by show hW h - w0 ≤ R.slots; omega) hd (k H locs ls hw hQ hv h0 h1)
end SQ
end
section
/-! String.length and String.charAt over the String constants. References from 900000 on are the constants, from 900100 on their bytes. -/
def strN (r : Nat) : Nat := mStL.getD (r - 900000) 0
def strL (r : Nat) : Int32 := Int32.ofNat (strN r)
def strC (r : Nat) (i : Int32) : Int32 := (mStB.getD (r - 900000) []).getD (mIx i) 0
theorem dJ0_length_8abf5_0 : decode cJ0_length_8abf5 0 = .ok (.aload_n 0, 1) := by decide +kernel
theorem dJ0_length_8abf5_1 : decode cJ0_length_8abf5 1 = .ok (.getfield 9, 3) := by decide +kernel
theorem dJ0_length_8abf5_4 : decode cJ0_length_8abf5 4 = .ok (.arraylength, 1) := by decide +kernel
theorem dJ0_length_8abf5_5 : decode cJ0_length_8abf5 5 = .ok (.aload_n 0, 1) := by decide +kernel
theorem dJ0_length_8abf5_6 : decode cJ0_length_8abf5 6 = .ok (.invokevirtual 335, 3) := by decide +kernel
theorem dJ0_length_8abf5_9 : decode cJ0_length_8abf5 9 = .ok (.ishr, 1) := by decide +kernel
theorem dJ0_length_8abf5_10 : decode cJ0_length_8abf5 10 = .ok (.ireturn, 1) := by decide +kernel
theorem dJ0_coder_7d493_0 : decode cJ0_coder_7d493 0 = .ok (.getstatic 38, 3) := by decide +kernel
theorem dJ0_coder_7d493_3 : decode cJ0_coder_7d493 3 = .ok (.ifCond .eq 10, 3) := by decide +kernel
theorem dJ0_coder_7d493_6 : decode cJ0_coder_7d493 6 = .ok (.aload_n 0, 1) := by decide +kernel
theorem dJ0_coder_7d493_7 : decode cJ0_coder_7d493 7 = .ok (.getfield 15, 3) := by decide +kernel
theorem dJ0_coder_7d493_10 : decode cJ0_coder_7d493 10 = .ok (.goto 4, 3) := by decide +kernel
theorem dJ0_coder_7d493_13 : decode cJ0_coder_7d493 13 = .ok (.iconst 1, 1) := by decide +kernel
theorem dJ0_coder_7d493_14 : decode cJ0_coder_7d493 14 = .ok (.ireturn, 1) := by decide +kernel
theorem dJ0_charAt_5068e_0 : decode cJ0_charAt_5068e 0 = .ok (.aload_n 0, 1) := by decide +kernel
theorem dJ0_charAt_5068e_1 : decode cJ0_charAt_5068e 1 = .ok (.invokevirtual 492, 3) := by decide +kernel
theorem dJ0_charAt_5068e_4 : decode cJ0_charAt_5068e 4 = .ok (.ifCond .eq 12, 3) := by decide +kernel
theorem dJ0_charAt_5068e_7 : decode cJ0_charAt_5068e 7 = .ok (.aload_n 0, 1) := by decide +kernel
theorem dJ0_charAt_5068e_8 : decode cJ0_charAt_5068e 8 = .ok (.getfield 9, 3) := by decide +kernel
theorem dJ0_charAt_5068e_11 : decode cJ0_charAt_5068e 11 = .ok (.iload_n 1, 1) := by decide +kernel
theorem dJ0_charAt_5068e_12 : decode cJ0_charAt_5068e 12 = .ok (.invokestatic 495, 3) := by decide +kernel
theorem dJ0_charAt_5068e_15 : decode cJ0_charAt_5068e 15 = .ok (.ireturn, 1) := by decide +kernel
theorem dJ0_charAt_5068e_16 : decode cJ0_charAt_5068e 16 = .ok (.aload_n 0, 1) := by decide +kernel
theorem dJ0_charAt_5068e_17 : decode cJ0_charAt_5068e 17 = .ok (.getfield 9, 3) := by decide +kernel
theorem dJ0_charAt_5068e_20 : decode cJ0_charAt_5068e 20 = .ok (.iload_n 1, 1) := by decide +kernel
theorem dJ0_charAt_5068e_21 : decode cJ0_charAt_5068e 21 = .ok (.invokestatic 498, 3) := by decide +kernel
theorem dJ0_charAt_5068e_24 : decode cJ0_charAt_5068e 24 = .ok (.ireturn, 1) := by decide +kernel
theorem dJ0_isLatin1_aae02_0 : decode cJ0_isLatin1_aae02 0 = .ok (.getstatic 38, 3) := by decide +kernel
theorem dJ0_isLatin1_aae02_3 : decode cJ0_isLatin1_aae02 3 = .ok (.ifCond .eq 14, 3) := by decide +kernel
theorem dJ0_isLatin1_aae02_6 : decode cJ0_isLatin1_aae02 6 = .ok (.aload_n 0, 1) := by decide +kernel
theorem dJ0_isLatin1_aae02_7 : decode cJ0_isLatin1_aae02 7 = .ok (.getfield 15, 3) := by decide +kernel
theorem dJ0_isLatin1_aae02_10 : decode cJ0_isLatin1_aae02 10 = .ok (.ifCond .ne 7, 3) := by decide +kernel
theorem dJ0_isLatin1_aae02_13 : decode cJ0_isLatin1_aae02 13 = .ok (.iconst 1, 1) := by decide +kernel
theorem dJ0_isLatin1_aae02_14 : decode cJ0_isLatin1_aae02 14 = .ok (.goto 4, 3) := by decide +kernel
theorem dJ0_isLatin1_aae02_17 : decode cJ0_isLatin1_aae02 17 = .ok (.iconst 0, 1) := by decide +kernel
theorem dJ0_isLatin1_aae02_18 : decode cJ0_isLatin1_aae02 18 = .ok (.ireturn, 1) := by decide +kernel
theorem dJ1_charAt_3b067_0 : decode cJ1_charAt_3b067 0 = .ok (.iload_n 1, 1) := by decide +kernel
theorem dJ1_charAt_3b067_1 : decode cJ1_charAt_3b067 1 = .ok (.aload_n 0, 1) := by decide +kernel
theorem dJ1_charAt_3b067_2 : decode cJ1_charAt_3b067 2 = .ok (.arraylength, 1) := by decide +kernel
theorem dJ1_charAt_3b067_3 : decode cJ1_charAt_3b067 3 = .ok (.invokestatic 9, 3) := by decide +kernel
theorem dJ1_charAt_3b067_6 : decode cJ1_charAt_3b067 6 = .ok (.aload_n 0, 1) := by decide +kernel
theorem dJ1_charAt_3b067_7 : decode cJ1_charAt_3b067 7 = .ok (.iload_n 1, 1) := by decide +kernel
theorem dJ1_charAt_3b067_8 : decode cJ1_charAt_3b067 8 = .ok (.baload, 1) := by decide +kernel
theorem dJ1_charAt_3b067_9 : decode cJ1_charAt_3b067 9 = .ok (.sipush 255, 3) := by decide +kernel
theorem dJ1_charAt_3b067_12 : decode cJ1_charAt_3b067 12 = .ok (.iand, 1) := by decide +kernel
theorem dJ1_charAt_3b067_13 : decode cJ1_charAt_3b067 13 = .ok (.i2c, 1) := by decide +kernel
theorem dJ1_charAt_3b067_14 : decode cJ1_charAt_3b067 14 = .ok (.ireturn, 1) := by decide +kernel
theorem dJ0_checkIndex_df160_0 : decode cJ0_checkIndex_df160 0 = .ok (.iload_n 0, 1) := by decide +kernel
theorem dJ0_checkIndex_df160_1 : decode cJ0_checkIndex_df160 1 = .ok (.iload_n 1, 1) := by decide +kernel
theorem dJ0_checkIndex_df160_2 : decode cJ0_checkIndex_df160 2 = .ok (.getstatic 1053, 3) := by decide +kernel
theorem dJ0_checkIndex_df160_5 : decode cJ0_checkIndex_df160 5 = .ok (.invokestatic 1059, 3) := by decide +kernel
theorem dJ0_checkIndex_df160_8 : decode cJ0_checkIndex_df160 8 = .ok (.pop, 1) := by decide +kernel
theorem dJ0_checkIndex_df160_9 : decode cJ0_checkIndex_df160 9 = .ok (.return_, 1) := by decide +kernel
theorem dJ3_checkIndex_8e157_0 : decode cJ3_checkIndex_8e157 0 = .ok (.iload_n 0, 1) := by decide +kernel
theorem dJ3_checkIndex_8e157_1 : decode cJ3_checkIndex_8e157 1 = .ok (.ifCond .lt 8, 3) := by decide +kernel
theorem dJ3_checkIndex_8e157_4 : decode cJ3_checkIndex_8e157 4 = .ok (.iload_n 0, 1) := by decide +kernel
theorem dJ3_checkIndex_8e157_5 : decode cJ3_checkIndex_8e157 5 = .ok (.iload_n 1, 1) := by decide +kernel
theorem dJ3_checkIndex_8e157_6 : decode cJ3_checkIndex_8e157 6 = .ok (.if_icmp .lt 10, 3) := by decide +kernel
theorem dJ3_checkIndex_8e157_9 : decode cJ3_checkIndex_8e157 9 = .ok (.aload_n 2, 1) := by decide +kernel
theorem dJ3_checkIndex_8e157_10 : decode cJ3_checkIndex_8e157 10 = .ok (.iload_n 0, 1) := by decide +kernel
theorem dJ3_checkIndex_8e157_11 : decode cJ3_checkIndex_8e157 11 = .ok (.iload_n 1, 1) := by decide +kernel
theorem dJ3_checkIndex_8e157_16 : decode cJ3_checkIndex_8e157 16 = .ok (.iload_n 0, 1) := by decide +kernel
theorem dJ3_checkIndex_8e157_17 : decode cJ3_checkIndex_8e157 17 = .ok (.ireturn, 1) := by decide +kernel
def mJ0_length_8abf5 : mM := (yJ0_length_8abf5, cJ0_length_8abf5, 1, (some .int))
def mJ0_coder_7d493 : mM := (yJ0_coder_7d493, cJ0_coder_7d493, 1, (some .byte))
def mJ0_charAt_5068e : mM := (yJ0_charAt_5068e, cJ0_charAt_5068e, 2, (some .char))
def mJ0_isLatin1_aae02 : mM := (yJ0_isLatin1_aae02, cJ0_isLatin1_aae02, 1, (some .boolean))
def mJ1_charAt_3b067 : mM := (yJ1_charAt_3b067, cJ1_charAt_3b067, 2, (some .char))
def mJ0_checkIndex_df160 : mM := (yJ0_checkIndex_df160, cJ0_checkIndex_df160, 2, none)
def mJ3_checkIndex_8e157 : mM := (yJ3_checkIndex_8e157, cJ3_checkIndex_8e157, 3, (some .int))
set_option maxRecDepth 100000 in
theorem lk_len : mLk 0 RX4 176 mJ0_length_8abf5 0 := by
  refine ⟨⟨by decide, by decide, by decide +kernel⟩, ?_, ?_, ?_, ?_, ?_⟩ <;> decide +kernel
set_option maxRecDepth 100000 in
theorem lk_chr : mLk 0 RX4 183 mJ0_charAt_5068e 1 := by
  refine ⟨⟨by decide, by decide, by decide +kernel⟩, ?_, ?_, ?_, ?_, ?_⟩ <;> decide +kernel
set_option maxRecDepth 100000 in
theorem lk_cod : mLk 0 RJ0 335 mJ0_coder_7d493 0 := by
  refine ⟨⟨by decide, by decide, by decide +kernel⟩, ?_, ?_, ?_, ?_, ?_⟩ <;> decide +kernel
set_option maxRecDepth 100000 in
theorem lk_lat : mLk 0 RJ0 492 mJ0_isLatin1_aae02 0 := by
  refine ⟨⟨by decide, by decide, by decide +kernel⟩, ?_, ?_, ?_, ?_, ?_⟩ <;> decide +kernel
set_option maxRecDepth 100000 in
theorem lk_ch1 : mLk 1 RJ0 495 mJ1_charAt_3b067 2 := by
  refine ⟨⟨by decide, by decide, by decide +kernel⟩, ?_, ?_, ?_, ?_⟩ <;> decide +kernel
set_option maxRecDepth 100000 in
theorem lk_ck0 : mLk 1 RJ1 9 mJ0_checkIndex_df160 2 := by
  refine ⟨⟨by decide, by decide, by decide +kernel⟩, ?_, ?_, ?_, ?_⟩ <;> decide +kernel
set_option maxRecDepth 100000 in
theorem lk_ck3 : mLk 1 RJ0 1059 mJ3_checkIndex_8e157 3 := by
  refine ⟨⟨by decide, by decide, by decide +kernel⟩, ?_, ?_, ?_, ?_⟩ <;> decide +kernel
set_option maxRecDepth 100000 in
theorem lx_str : Cond.fieldLink RJ0 9 "java/lang/String" "value" "[B" ∈ mTb ∧ Cond.fieldLink RJ0 15 "java/lang/String" "coder" "B" ∈ mTb ∧ Cond.fieldLink RJ0 38 "java/lang/String" "COMPACT_STRINGS" "Z" ∈ mTb ∧ Cond.fieldLink RJ0 1053 "jdk/internal/util/Preconditions" "SIOOBE_FORMATTER" "Ljava/util/function/BiFunction;" ∈ mTb := by decide +kernel
theorem str_shr : ∀ j, j < 15 → (Int32.ofNat (mStL.getD j 0)) >>> ((0 : Int32) &&& 31) = Int32.ofNat (mStL.getD j 0) := by decide +kernel
theorem str_chr : ∀ j, j < 15 → ∀ k, k < mStL.getD j 0 → (((mStB.getD j []).getD k 0 &&& 255).toUInt32 % 65536).toInt32 = (mStB.getD j []).getD k 0 ∧ narrow .char (.int ((mStB.getD j []).getD k 0)) = .int ((mStB.getD j []).getD k 0) := by decide +kernel
section SS
variable {p : Program} {l : Launch} {e : Env} {R : Room} {s : State} {m : MethodId} {args : Array Value} {below : List Frame} {meth : Method} {c : Code} {Q : State → Prop} {cc : ByteArray} {own : String} {G : mG} {nL n0 w0 nM wM : Nat} {fin : Bool}
theorem mCv_x {a : Nat} (h : a < 99999) : mCv G (.ref (900000 + a)) = .ref (G.2.1 a) := by
  show va_rf (mRo G (900000 + a)) = _
  unfold mRo mAd NUL
  rw [if_neg (by omega), if_neg (by omega), Nat.add_sub_cancel_left]
  rfl
theorem ss_cs (C : mCx p R s m args meth c G cc RJ0 nL fin nM wM n0 w0) {pc : Nat} {ok ok' : Bool} {L t : List Value} {h : mHp} (hd : decode cc pc = .ok (.getstatic 38, 3))
    (k : mW p l e R s m args below meth c G nL n0 w0 Q (ok', pc + 3, L, .int 1 :: t, h)) : mW p l e R s m args below meth c G nL n0 w0 Q (ok, pc, L, t, h) := by
  obtain ⟨hx, hcb, hml, hown, hts, hK, hsz, hX, hnm, hfr, hfin⟩ := C
  intro H locs ls hw hQ hv h0 h1
  exact va_gets hx hcb hX.2.2.2.2.1 hQ hown (hts _ lx_str.2.2.1) (fun _ z => z) hd (k H locs ls hw hQ hv h0 h1)
theorem ss_fm (C : mCx p R s m args meth c G cc RJ0 nL fin nM wM n0 w0) {pc : Nat} {ok ok' : Bool} {L t : List Value} {h : mHp} (hd : decode cc pc = .ok (.getstatic 1053, 3))
    (k : ∀ f : Nat, (f = NUL ∨ f = 900200) → mW p l e R s m args below meth c G nL n0 w0 Q (ok', pc + 3, L, .ref f :: t, h)) : mW p l e R s m args below meth c G nL n0 w0 Q (ok, pc, L, t, h) := by
  obtain ⟨hx, hcb, hml, hown, hts, hK, hsz, hX, hnm, hfr, hfin⟩ := C
  intro H locs ls hw hQ hv h0 h1
  obtain ⟨f, hf, hZ⟩ := hX.2.2.2.2.2.1
  exact va_gets hx hcb hZ hQ hown (hts _ lx_str.2.2.2) (fun _ z => z) hd (k f hf H locs ls hw hQ hv h0 h1)
theorem ss_cod (C : mCx p R s m args meth c G cc RJ0 nL fin nM wM n0 w0) {pc j : Nat} (hj : j < 15) {ok ok' : Bool} {L t : List Value} {h : mHp} (hd : decode cc pc = .ok (.getfield 15, 3))
    (k : mW p l e R s m args below meth c G nL n0 w0 Q (ok', pc + 3, L, .int 0 :: t, h)) : mW p l e R s m args below meth c G nL n0 w0 Q (ok, pc, L, .ref (900000 + j) :: t, h) := by
  obtain ⟨hx, hcb, hml, hown, hts, hK, hsz, hX, hnm, hfr, hfin⟩ := C
  intro H locs ls hw hQ hv h0 h1
  show W p l e R s m args below meth c H locs _ _ Q (F0 m pc ls (mCv G (.ref (900000 + j)) :: t.map (mCv G)))
  rw [mCv_x (by omega)]
  exact vk_getf hx hcb (hX.2.1.1 j hj).2.1 hQ hown (hts _ lx_str.2.1) (fun _ z => z) hd (k H locs ls hw hQ hv h0 h1)
theorem ss_val (C : mCx p R s m args meth c G cc RJ0 nL fin nM wM n0 w0) {pc j : Nat} (hj : j < 15) {ok ok' : Bool} {L t : List Value} {h : mHp} (hd : decode cc pc = .ok (.getfield 9, 3))
    (k : mW p l e R s m args below meth c G nL n0 w0 Q (ok', pc + 3, L, .ref (900000 + (100 + j)) :: t, h)) : mW p l e R s m args below meth c G nL n0 w0 Q (ok, pc, L, .ref (900000 + j) :: t, h) := by
  obtain ⟨hx, hcb, hml, hown, hts, hK, hsz, hX, hnm, hfr, hfin⟩ := C
  intro H locs ls hw hQ hv h0 h1
  show W p l e R s m args below meth c H locs _ _ Q (F0 m pc ls (mCv G (.ref (900000 + j)) :: t.map (mCv G)))
  rw [mCv_x (by omega)]
  have k1 := k H locs ls hw hQ hv h0 h1
  have k2 : W p l e R s m args below meth c H locs (hN h - n0) (hW h - w0) Q (F0 m (pc + 3) ls (mCv G (.ref (900000 + (100 + j))) :: t.map (mCv G))) := k1
  rw [mCv_x (by omega), hX.2.2.2.2.2.2 j hj] at k2
  exact vk_getf hx hcb (hX.2.1.1 j hj).2.2.1 hQ hown (hts _ lx_str.1) (fun _ z => z) hd k2
theorem ss_len (C : mCx p R s m args meth c G cc own nL fin nM wM n0 w0) {pc j : Nat} (hj : j < 15) {ok ok' : Bool} {L t : List Value} {h : mHp} (hd : decode cc pc = .ok (.arraylength, 1))
    (k : mW p l e R s m args below meth c G nL n0 w0 Q (ok', pc + 1, L, .int (Int32.ofNat (mStL.getD j 0)) :: t, h)) : mW p l e R s m args below meth c G nL n0 w0 Q (ok, pc, L, .ref (900000 + (100 + j)) :: t, h) := by
  obtain ⟨hx, hcb, hml, hown, hts, hK, hsz, hX, hnm, hfr, hfin⟩ := C
  intro H locs ls hw hQ hv h0 h1
  show W p l e R s m args below meth c H locs _ _ Q (F0 m pc ls (mCv G (.ref (900000 + (100 + j))) :: t.map (mCv G)))
  rw [mCv_x (by omega), hX.2.2.2.2.2.2 j hj]
  exact va_tlen hx hcb (hX.2.1.1 j hj).2.2.2 hQ rfl hd (k H locs ls hw hQ hv h0 h1)
theorem ss_bal (C : mCx p R s m args meth c G cc own nL fin nM wM n0 w0) {pc j : Nat} (hj : j < 15) {i : Int32} (hi : vp_in i (mStL.getD j 0)) {ok ok' : Bool} {L t : List Value} {h : mHp} (hd : decode cc pc = .ok (.baload, 1))
    (k : mW p l e R s m args below meth c G nL n0 w0 Q (ok', pc + 1, L, .int ((mStB.getD j []).getD (mIx i) 0) :: t, h)) : mW p l e R s m args below meth c G nL n0 w0 Q (ok, pc, L, .int i :: .ref (900000 + (100 + j)) :: t, h) := by
  obtain ⟨hx, hcb, hml, hown, hts, hK, hsz, hX, hnm, hfr, hfin⟩ := C
  intro H locs ls hw hQ hv h0 h1
  show W p l e R s m args below meth c H locs _ _ Q (F0 m pc ls (.int i :: mCv G (.ref (900000 + (100 + j))) :: t.map (mCv G)))
  rw [mCv_x (by omega), hX.2.2.2.2.2.2 j hj]
  exact va_tb hx hcb (hX.2.1.1 j hj).2.2.2 hQ hi rfl hd (k H locs ls hw hQ hv h0 h1)
/-- a call on a String constant -/
theorem mcallS {i n pc d : Nat} {M : mM} (C : mCx p R s m args meth c G cc own nL fin nM wM n0 w0) (hk : mLk 0 own i M n) (hcls : M.1.cls = "java/lang/String") {j : Nat} (hj : j < 15) {ok ok' : Bool} {L vs' rest : List Value} {h : mHp} {r : Option Value} (hM : mMet l M d (.ref (900000 + j) :: vs') h r h)
    (hd : decode cc pc = .ok (.invokevirtual i, 3)) (hv : vs'.length = n)
    (hf : d + 1 ≤ R.frames) (hlo : 19 + M.2.2.1 + 100 * d ≤ R.locals) (hnM : hN h ≤ nM) (hwM : hW h ≤ wM) (hcat : (rest.map fun v => v.category).sum ≤ 8)
    (k : mW p l e R s m args below meth c G nL n0 w0 Q (ok', pc + 3, L, r.toList ++ rest, h)) : mW p l e R s m args below meth c G nL n0 w0 Q (ok, pc, L, vs'.reverse ++ (.ref (900000 + j) :: rest), h) := by
  intro H locs ls hw hQ hl h0 h1
  have h0 : n0 ≤ hN h := h0
  have h1 : w0 ≤ hW h := h1
  refine W_sz fun hz => ?_
  have hsz2 : H.size = G.1 + hN h := mWd_sz hw C.2.2.2.2.2.2.1 hz h0 hQ.1
  have hpre := mPre_call (vs := .ref (900000 + j) :: vs') C hw hQ hsz2
  obtain ⟨m1, m2, hMet⟩ := hM
  have hG := hMet G
  obtain ⟨hx, hb, hml, hown, hts, hK, hsz, hX, ⟨hnm1, hnm2, hnm3⟩, hfr, hfin⟩ := C
  obtain ⟨kd1, kd2, kd3, q1, q2, q3⟩ := hk
  have hR : (mRm d h h).frames + 1 ≤ R.frames ∧ 8 + (M.2.2.1 + 11) + (mRm d h h).locals ≤ R.locals := ⟨hf, by show 8 + (M.2.2.1 + 11) + 100 * d ≤ R.locals; omega⟩
  have ea : (mCv G (.ref (900000 + j))) = .ref (G.2.1 j) := mCv_x (by omega)
  have hpre2 : ∀ U : State, U.heap = H → s.WarmedH U.vm → va_Pc ((Value.ref (900000 + j) :: vs').map (mCv G)) (mPre G h) (Value.ref (G.2.1 j) :: vs'.map (mCv G)).toArray U := by
    rw [← ea]; exact hpre
  have hrecv := vk_recv hX.2.1 hj hQ
  have hrun := va_runV (p := p) (l := l) (e := e) (R := R) (below := below) (meth := meth) (locs := locs) (cells := hN h - n0) (slots := hW h - w0) (g := F0 m pc ls ((vs'.reverse ++ (.ref (900000 + j) :: rest)).map (mCv G))) (As := vs'.map (mCv G)) (rest := rest.map (mCv G)) (b := G.2.1 j) (C := M.1.cls) (Ts := mTb) (nL := nL) ⟨hx, hb, hml, hown, hts⟩ hG ⟨callB_of n hts (mGood kd2) rfl rfl rfl (hts _ kd3) (hts _ q1) kd1 hR, hts _ q2, hts _ q3⟩ ⟨mPre_blind, by rw [hcls]; exact hrecv, hpre2⟩ rfl (by rw [List.length_map]; exact hv) hl.1 (by
      show (vs'.reverse ++ (.ref (900000 + j) :: rest)).map (mCv G) = _
      rw [List.map_append, List.map_reverse, List.map_cons, ea]) (lv_room (by rw [mCv_cats]; exact hcat)) hd ⟨by omega, by omega⟩
  refine mrun_go hrun hQ fun H1 locs1 hw1 hQ1 => ?_
  have k1 := k H1 locs1 ls hw1 hQ1 hl h0 h1
  have k2 : W p l e R s m args below meth c H1 locs1 (hN h - n0) (hW h - w0) Q (F0 m (pc + 3) ls ((r.toList ++ rest).map (mCv G))) := k1
  rw [show hN h - n0 + (hN h - hN h) = hN h - n0 by omega, show hW h - w0 + (hW h - hW h) = hW h - w0 by omega]
  have e9 : (r.toList ++ rest).map (mCv G) = (r.map (mCv G)).toList ++ rest.map (mCv G) := by
    cases r <;> rfl
  rw [e9] at k2
  exact k2
end SS
section SU
variable {l : Launch} {h : mHp}
/-- coder(): 0 -/
theorem q_cod (h9 : hN h ≤ 900000) {j : Nat} (hj : j < 15) : mMet l mJ0_coder_7d493 1 [.ref (900000 + j)] h (some (.int 0)) h := by
  refine mMet_of false (by decide) (fun z => by cases z) (by decide) rfl (Nat.le_of_ble_eq_true rfl) (Nat.le_refl _) (Nat.le_refl _) h9 (fun p e s m args below meth c G C hr hk => ?_)
  refine ss_cs C (ok' := true) dJ0_coder_7d493_0 ?_
  refine mst_ok (q := (3, .ifCond .eq 10, 3, 0, 0)) C dJ0_coder_7d493_3 rfl rfl trivial rfl rfl ?_
  show mW p l e _ s m args below meth c G 1 _ _ _ (true, 6, [.ref (900000 + j)], [], h)
  refine mst_ok (q := (6, .aload_n 0, 1, 0, 0)) C dJ0_coder_7d493_6 rfl rfl trivial rfl rfl ?_
  refine ss_cod C hj (ok' := true) dJ0_coder_7d493_7 ?_
  refine mst_ok (q := (10, .goto 4, 3, 0, 0)) C dJ0_coder_7d493_10 rfl rfl trivial rfl rfl ?_
  exact mret_z C hr hk (by decide) dJ0_coder_7d493_14
/-- isLatin1(): true -/
theorem q_lat (h9 : hN h ≤ 900000) {j : Nat} (hj : j < 15) : mMet l mJ0_isLatin1_aae02 1 [.ref (900000 + j)] h (some (.int 1)) h := by
  refine mMet_of false (by decide) (fun z => by cases z) (by decide) rfl (Nat.le_of_ble_eq_true rfl) (Nat.le_refl _) (Nat.le_refl _) h9 (fun p e s m args below meth c G C hr hk => ?_)
  refine ss_cs C (ok' := true) dJ0_isLatin1_aae02_0 ?_
  refine mst_ok (q := (3, .ifCond .eq 14, 3, 0, 0)) C dJ0_isLatin1_aae02_3 rfl rfl trivial rfl rfl ?_
  show mW p l e _ s m args below meth c G 1 _ _ _ (true, 6, [.ref (900000 + j)], [], h)
  refine mst_ok (q := (6, .aload_n 0, 1, 0, 0)) C dJ0_isLatin1_aae02_6 rfl rfl trivial rfl rfl ?_
  refine ss_cod C hj (ok' := true) dJ0_isLatin1_aae02_7 ?_
  refine mst_ok (q := (10, .ifCond .ne 7, 3, 0, 0)) C dJ0_isLatin1_aae02_10 rfl rfl trivial rfl rfl ?_
  show mW p l e _ s m args below meth c G 1 _ _ _ (true, 13, [.ref (900000 + j)], [], h)
  refine mst_ok (q := (13, .iconst 1, 1, 0, 0)) C dJ0_isLatin1_aae02_13 rfl rfl trivial rfl rfl ?_
  refine mst_ok (q := (14, .goto 4, 3, 0, 0)) C dJ0_isLatin1_aae02_14 rfl rfl trivial rfl rfl ?_
  exact mret_z C hr hk (by decide) dJ0_isLatin1_aae02_18
/-- length() -/
theorem q_len (h9 : hN h ≤ 900000) {j : Nat} (hj : j < 15) : mMet l mJ0_length_8abf5 2 [.ref (900000 + j)] h (some (.int (Int32.ofNat (mStL.getD j 0)))) h := by
  refine mMet_of false (by decide) (fun z => by cases z) (by decide) rfl (Nat.le_of_ble_eq_true rfl) (Nat.le_refl _) (Nat.le_refl _) h9 (fun p e s m args below meth c G C hr hk => ?_)
  refine mst_ok (q := (0, .aload_n 0, 1, 0, 0)) C dJ0_length_8abf5_0 rfl rfl trivial rfl rfl ?_
  refine ss_val C hj (ok' := true) dJ0_length_8abf5_1 ?_
  refine ss_len C hj (ok' := true) dJ0_length_8abf5_4 ?_
  refine mst_ok (q := (5, .aload_n 0, 1, 0, 0)) C dJ0_length_8abf5_5 rfl rfl trivial rfl rfl ?_
  refine mcallS (vs' := []) (rest := [.int (Int32.ofNat (mStL.getD j 0))]) (ok' := true) C lk_cod rfl hj (q_cod h9 hj) dJ0_length_8abf5_6 rfl (Nat.le_of_ble_eq_true rfl) (Nat.le_of_ble_eq_true rfl) (Nat.le_refl _) (Nat.le_refl _) (Nat.le_of_ble_eq_true rfl) ?_
  refine mst_ok (q := (9, .ishr, 1, 0, 0)) C dJ0_length_8abf5_9 rfl rfl trivial rfl rfl ?_
  show mW p l e _ s m args below meth c G 1 _ _ _ (true, 10, [.ref (900000 + j)], [.int ((Int32.ofNat (mStL.getD j 0)) >>> ((0 : Int32) &&& 31))], h)
  rw [str_shr j hj]
  exact mret_i C hr hk dJ0_length_8abf5_10
theorem q_ck3 (h9 : hN h ≤ 900000) {i n : Int32} {f : Nat} (h1 : ¬ i < 0) (h2 : i < n) : mMet l mJ3_checkIndex_8e157 1 [.int i, .int n, .ref f] h (some (.int i)) h := by
  refine mMet_of false (by decide) (fun z => by cases z) (by decide) rfl (Nat.le_of_ble_eq_true rfl) (Nat.le_refl _) (Nat.le_refl _) h9 (fun p e s m args below meth c G C hr hk => ?_)
  refine mst_ok (q := (0, .iload_n 0, 1, 0, 0)) C dJ3_checkIndex_8e157_0 rfl rfl trivial rfl rfl ?_
  refine mst_ok (q := (1, .ifCond .lt 8, 3, 0, 0)) C dJ3_checkIndex_8e157_1 rfl rfl trivial rfl rfl ?_
  show mW p l e _ s m args below meth c G 3 _ _ _ (true, (if i < 0 then 9 else 4), [.int i, .int n, .ref f], [], h)
  rw [if_neg h1]
  refine mst_ok (q := (4, .iload_n 0, 1, 0, 0)) C dJ3_checkIndex_8e157_4 rfl rfl trivial rfl rfl ?_
  refine mst_ok (q := (5, .iload_n 1, 1, 0, 0)) C dJ3_checkIndex_8e157_5 rfl rfl trivial rfl rfl ?_
  refine mst_ok (q := (6, .if_icmp .lt 10, 3, 0, 0)) C dJ3_checkIndex_8e157_6 rfl rfl trivial rfl rfl ?_
  show mW p l e _ s m args below meth c G 3 _ _ _ (true, (if i < n then 16 else 9), [.int i, .int n, .ref f], [], h)
  rw [if_pos h2]
  refine mst_ok (q := (16, .iload_n 0, 1, 0, 0)) C dJ3_checkIndex_8e157_16 rfl rfl trivial rfl rfl ?_
  exact mret_i C hr hk dJ3_checkIndex_8e157_17
theorem q_ck0 (h9 : hN h ≤ 900000) {i n : Int32} (h1 : ¬ i < 0) (h2 : i < n) : mMet l mJ0_checkIndex_df160 2 [.int i, .int n] h none h := by
  refine mMet_of false (by decide) (fun z => by cases z) (by decide) rfl (Nat.le_of_ble_eq_true rfl) (Nat.le_refl _) (Nat.le_refl _) h9 (fun p e s m args below meth c G C hr hk => ?_)
  refine mst_ok (q := (0, .iload_n 0, 1, 0, 0)) C dJ0_checkIndex_df160_0 rfl rfl trivial rfl rfl ?_
  refine mst_ok (q := (1, .iload_n 1, 1, 0, 0)) C dJ0_checkIndex_df160_1 rfl rfl trivial rfl rfl ?_
  refine ss_fm C (ok' := true) dJ0_checkIndex_df160_2 (fun f hf => ?_)
  refine mcall (kd := 1) (vs := [.int i, .int n, .ref f]) (rest := []) (r := some (.int i)) (h' := h) (ok' := true) C lk_ck3 (q_ck3 h9 h1 h2) dJ0_checkIndex_df160_5 rfl (Nat.le_of_ble_eq_true rfl) (Nat.le_of_ble_eq_true rfl) (Nat.le_refl _) (Nat.le_refl _) (Nat.le_of_ble_eq_true rfl) ?_
  refine mst_ok (q := (8, .pop, 1, 0, 0)) C dJ0_checkIndex_df160_8 rfl rfl trivial rfl rfl ?_
  exact mret_v C hr hk dJ0_checkIndex_df160_9
theorem q_ch1 (h9 : hN h ≤ 900000) {j : Nat} (hj : j < 15) {i : Int32} (h1 : ¬ i < 0) (h2 : i < Int32.ofNat (mStL.getD j 0)) (hi : vp_in i (mStL.getD j 0)) : mMet l mJ1_charAt_3b067 3 [.ref (900000 + (100 + j)), .int i] h (some (.int ((mStB.getD j []).getD (mIx i) 0))) h := by
  have hch := str_chr j hj (mIx i) (Nat.not_le.mp fun q => hi (Or.inr q))
  refine mMet_of false (by decide) (fun z => by cases z) (by decide) rfl (Nat.le_of_ble_eq_true rfl) (Nat.le_refl _) (Nat.le_refl _) h9 (fun p e s m args below meth c G C hr hk => ?_)
  refine mst_ok (q := (0, .iload_n 1, 1, 0, 0)) C dJ1_charAt_3b067_0 rfl rfl trivial rfl rfl ?_
  refine mst_ok (q := (1, .aload_n 0, 1, 0, 0)) C dJ1_charAt_3b067_1 rfl rfl trivial rfl rfl ?_
  refine ss_len C hj (ok' := true) dJ1_charAt_3b067_2 ?_
  refine mcall (kd := 1) (vs := [.int i, .int (Int32.ofNat (mStL.getD j 0))]) (rest := []) (r := none) (h' := h) (ok' := true) C lk_ck0 (q_ck0 h9 h1 h2) dJ1_charAt_3b067_3 rfl (Nat.le_of_ble_eq_true rfl) (Nat.le_of_ble_eq_true rfl) (Nat.le_refl _) (Nat.le_refl _) (Nat.le_of_ble_eq_true rfl) ?_
  refine mst_ok (q := (6, .aload_n 0, 1, 0, 0)) C dJ1_charAt_3b067_6 rfl rfl trivial rfl rfl ?_
  refine mst_ok (q := (7, .iload_n 1, 1, 0, 0)) C dJ1_charAt_3b067_7 rfl rfl trivial rfl rfl ?_
  refine ss_bal C hj hi (ok' := true) dJ1_charAt_3b067_8 ?_
  refine mst_ok (q := (9, .sipush 255, 3, 0, 0)) C dJ1_charAt_3b067_9 rfl rfl trivial rfl rfl ?_
  refine mst_ok (q := (12, .iand, 1, 0, 0)) C dJ1_charAt_3b067_12 rfl rfl trivial rfl rfl ?_
  refine mst_ok (q := (13, .i2c, 1, 0, 0)) C dJ1_charAt_3b067_13 rfl rfl trivial rfl rfl ?_
  show mW p l e _ s m args below meth c G 2 _ _ _ (true, 14, [.ref (900000 + (100 + j)), .int i], [.int (((mStB.getD j []).getD (mIx i) 0 &&& 255).toUInt32 % 65536).toInt32], h)
  rw [hch.1]
  exact mret_z C hr hk hch.2 dJ1_charAt_3b067_14
theorem q_chr (h9 : hN h ≤ 900000) {j : Nat} (hj : j < 15) {i : Int32} (h1 : ¬ i < 0) (h2 : i < Int32.ofNat (mStL.getD j 0)) (hi : vp_in i (mStL.getD j 0)) : mMet l mJ0_charAt_5068e 4 [.ref (900000 + j), .int i] h (some (.int ((mStB.getD j []).getD (mIx i) 0))) h := by
  have hch := str_chr j hj (mIx i) (Nat.not_le.mp fun q => hi (Or.inr q))
  refine mMet_of false (by decide) (fun z => by cases z) (by decide) rfl (Nat.le_of_ble_eq_true rfl) (Nat.le_refl _) (Nat.le_refl _) h9 (fun p e s m args below meth c G C hr hk => ?_)
  refine mst_ok (q := (0, .aload_n 0, 1, 0, 0)) C dJ0_charAt_5068e_0 rfl rfl trivial rfl rfl ?_
  refine mcallS (vs' := []) (rest := []) (ok' := true) C lk_lat rfl hj (q_lat h9 hj) dJ0_charAt_5068e_1 rfl (Nat.le_of_ble_eq_true rfl) (Nat.le_of_ble_eq_true rfl) (Nat.le_refl _) (Nat.le_refl _) (Nat.le_of_ble_eq_true rfl) ?_
  refine mst_ok (q := (4, .ifCond .eq 12, 3, 0, 0)) C dJ0_charAt_5068e_4 rfl rfl trivial rfl rfl ?_
  show mW p l e _ s m args below meth c G 2 _ _ _ (true, 7, [.ref (900000 + j), .int i], [], h)
  refine mst_ok (q := (7, .aload_n 0, 1, 0, 0)) C dJ0_charAt_5068e_7 rfl rfl trivial rfl rfl ?_
  refine ss_val C hj (ok' := true) dJ0_charAt_5068e_8 ?_
  refine mst_ok (q := (11, .iload_n 1, 1, 0, 0)) C dJ0_charAt_5068e_11 rfl rfl trivial rfl rfl ?_
  refine mcall (kd := 1) (vs := [.ref (900000 + (100 + j)), .int i]) (rest := []) (r := some (.int ((mStB.getD j []).getD (mIx i) 0))) (h' := h) (ok' := true) C lk_ch1 (q_ch1 h9 hj h1 h2 hi) dJ0_charAt_5068e_12 rfl (Nat.le_of_ble_eq_true rfl) (Nat.le_of_ble_eq_true rfl) (Nat.le_refl _) (Nat.le_refl _) (Nat.le_of_ble_eq_true rfl) ?_
  exact mret_z C hr hk hch.2 dJ0_charAt_5068e_15
end SU
section SV
variable {p : Program} {l : Launch} {e : Env} {R : Room} {s : State} {m : MethodId} {args : Array Value} {below : List Frame} {meth : Method} {c : Code} {Q : State → Prop} {cc : ByteArray} {G : mG} {nL n0 w0 nM wM : Nat} {fin : Bool}
theorem so_slen {j : Nat} (C : mCx p R s m args meth c G cc RX4 nL fin nM wM n0 w0) {pc : Nat} {ok ok' : Bool} {L t : List Value} {h : mHp} (hd : decode cc pc = .ok (.invokevirtual 176, 3)) (hj : j < 15) (hcat : (t.map fun v => v.category).sum ≤ 8) (hn : hN h ≤ nM) (hm : hW h ≤ wM) (hf : 3 ≤ R.frames) (hlo : 300 ≤ R.locals)
    (k : mW p l e R s m args below meth c G nL n0 w0 Q (ok', pc + 3, L, .int (strL (900000 + j)) :: t, h)) : mW p l e R s m args below meth c G nL n0 w0 Q (ok, pc, L, .ref (900000 + j) :: t, h) := by
  have e1 : strL (900000 + j) = Int32.ofNat (mStL.getD j 0) := by unfold strL strN; rw [Nat.add_sub_cancel_left]
  rw [e1] at k
  have h9 : hN h ≤ 900000 := Nat.le_trans hn C.2.2.2.2.2.2.2.2.1.2.2
  exact mcallS (vs' := []) (rest := t) (r := some (.int (Int32.ofNat (mStL.getD j 0)))) C lk_len rfl hj (q_len h9 hj) hd rfl hf (by show 19 + 1 + 100 * 2 ≤ R.locals; omega) hn hm hcat k
theorem so_schr {j : Nat} (C : mCx p R s m args meth c G cc RX4 nL fin nM wM n0 w0) {pc : Nat} {ok ok' : Bool} {L t : List Value} {h : mHp} {i : Int32} (hd : decode cc pc = .ok (.invokevirtual 183, 3)) (hj : j < 15) (hcat : (t.map fun v => v.category).sum ≤ 8) (hn : hN h ≤ nM) (hm : hW h ≤ wM) (hf : 5 ≤ R.frames) (hlo : 500 ≤ R.locals) (hi : (mIn i (strN (900000 + j)) && true) = true)
    (k : mW p l e R s m args below meth c G nL n0 w0 Q (ok', pc + 3, L, .int (strC (900000 + j) i) :: t, h)) : mW p l e R s m args below meth c G nL n0 w0 Q (ok, pc, L, .int i :: .ref (900000 + j) :: t, h) := by
  have e1 : strC (900000 + j) i = (mStB.getD j []).getD (mIx i) 0 := by unfold strC; rw [Nat.add_sub_cancel_left]
  have e2 : strN (900000 + j) = mStL.getD j 0 := by unfold strN; rw [Nat.add_sub_cancel_left]
  rw [e1] at k
  rw [e2, Bool.and_true] at hi
  have h9 : hN h ≤ 900000 := Nat.le_trans hn C.2.2.2.2.2.2.2.2.1.2.2
  have hin := mIn_in hi
  have g1 : ¬ i < 0 := fun z => hin (Or.inl z)
  have hsm : ∀ j, j < 15 → mStL.getD j 0 < 100 := by decide
  obtain ⟨n, hn2, rfl⟩ := vp_in_of hin (by have := hsm j hj; omega)
  have g2 : nI n < Int32.ofNat (mStL.getD j 0) := nI_lt hn2 (by have := hsm j hj; omega)
  exact mcallS (vs' := [.int (nI n)]) (rest := t) (r := some (.int ((mStB.getD j []).getD (mIx (nI n)) 0))) C lk_chr rfl hj (q_chr h9 hj g1 g2 hin) hd rfl hf (by show 19 + 2 + 100 * 4 ≤ R.locals; omega) hn hm hcat k
end SV
end
