section
-- ===== PART A: goes FIRST, ahead of the names: the tables' words, and 'selects' of the private methods out of them =====
/-- a private method of a class that the tables say can be made, by its rows of tables_1 -/
def lw_okq (q : MethodName × Nat) : Prop := (q.1.cls ≠ "java/lang/invoke/MethodHandle" ∧ q.1.cls ≠ "java/lang/invoke/VarHandle") ∧ Cond.instantiable q.1.cls q.2 ∈ tables_1 ∧ Cond.privateMethod q.1 ∈ tables_1 ∧ Cond.instanceMethod q.1 ∈ tables_1
theorem lw_p0 : lw_okq (⟨"StoneCensus$Reader", "advance", "()V"⟩, 10) := ⟨⟨by decide +kernel, by decide +kernel⟩, List.mem_of_getElem? (i := 31) (by decide +kernel), List.mem_of_getElem? (i := 493) (by decide +kernel), List.mem_of_getElem? (i := 494) (by decide +kernel)⟩
theorem lw_p1 : lw_okq (⟨"StoneCensus$Reader", "isLetterAt", "(I)Z"⟩, 10) := ⟨⟨by decide +kernel, by decide +kernel⟩, List.mem_of_getElem? (i := 31) (by decide +kernel), List.mem_of_getElem? (i := 497) (by decide +kernel), List.mem_of_getElem? (i := 498) (by decide +kernel)⟩
theorem lw_p2 : lw_okq (⟨"StoneCensus$Reader", "scanWord", "()V"⟩, 10) := ⟨⟨by decide +kernel, by decide +kernel⟩, List.mem_of_getElem? (i := 31) (by decide +kernel), List.mem_of_getElem? (i := 501) (by decide +kernel), List.mem_of_getElem? (i := 502) (by decide +kernel)⟩
theorem lw_p3 : lw_okq (⟨"StoneCensus$Reader", "refuse", "(I)V"⟩, 10) := ⟨⟨by decide +kernel, by decide +kernel⟩, List.mem_of_getElem? (i := 31) (by decide +kernel), List.mem_of_getElem? (i := 506) (by decide +kernel), List.mem_of_getElem? (i := 507) (by decide +kernel)⟩
theorem lw_p4 : lw_okq (⟨"StoneCensus$Reader", "isDigitAt", "(I)Z"⟩, 10) := ⟨⟨by decide +kernel, by decide +kernel⟩, List.mem_of_getElem? (i := 31) (by decide +kernel), List.mem_of_getElem? (i := 510) (by decide +kernel), List.mem_of_getElem? (i := 511) (by decide +kernel)⟩
theorem lw_p5 : lw_okq (⟨"StoneCensus$Reader", "scanNumber", "()V"⟩, 10) := ⟨⟨by decide +kernel, by decide +kernel⟩, List.mem_of_getElem? (i := 31) (by decide +kernel), List.mem_of_getElem? (i := 514) (by decide +kernel), List.mem_of_getElem? (i := 515) (by decide +kernel)⟩
theorem lw_p6 : lw_okq (⟨"StoneCensus$Reader", "scanSign", "()V"⟩, 10) := ⟨⟨by decide +kernel, by decide +kernel⟩, List.mem_of_getElem? (i := 31) (by decide +kernel), List.mem_of_getElem? (i := 518) (by decide +kernel), List.mem_of_getElem? (i := 519) (by decide +kernel)⟩
theorem lw_p7 : lw_okq (⟨"StoneCensus$Reader", "readLine", "(LStoneCensus$Sheet;)V"⟩, 10) := ⟨⟨by decide +kernel, by decide +kernel⟩, List.mem_of_getElem? (i := 31) (by decide +kernel), List.mem_of_getElem? (i := 522) (by decide +kernel), List.mem_of_getElem? (i := 523) (by decide +kernel)⟩
theorem lw_p8 : lw_okq (⟨"StoneCensus$Reader", "isWord", "(Ljava/lang/String;)Z"⟩, 10) := ⟨⟨by decide +kernel, by decide +kernel⟩, List.mem_of_getElem? (i := 31) (by decide +kernel), List.mem_of_getElem? (i := 527) (by decide +kernel), List.mem_of_getElem? (i := 528) (by decide +kernel)⟩
theorem lw_p9 : lw_okq (⟨"StoneCensus$Reader", "readHouse", "(LStoneCensus$Sheet;)V"⟩, 10) := ⟨⟨by decide +kernel, by decide +kernel⟩, List.mem_of_getElem? (i := 31) (by decide +kernel), List.mem_of_getElem? (i := 579) (by decide +kernel), List.mem_of_getElem? (i := 580) (by decide +kernel)⟩
theorem lw_p10 : lw_okq (⟨"StoneCensus$Reader", "takeName", "(LStoneCensus$Sheet;)J"⟩, 10) := ⟨⟨by decide +kernel, by decide +kernel⟩, List.mem_of_getElem? (i := 31) (by decide +kernel), List.mem_of_getElem? (i := 583) (by decide +kernel), List.mem_of_getElem? (i := 584) (by decide +kernel)⟩
theorem lw_p11 : lw_okq (⟨"StoneCensus$Reader", "standsForItself", "()Z"⟩, 10) := ⟨⟨by decide +kernel, by decide +kernel⟩, List.mem_of_getElem? (i := 31) (by decide +kernel), List.mem_of_getElem? (i := 587) (by decide +kernel), List.mem_of_getElem? (i := 588) (by decide +kernel)⟩
theorem lw_p12 : lw_okq (⟨"StoneCensus$Reader", "takeTold", "(Ljava/lang/String;I)I"⟩, 10) := ⟨⟨by decide +kernel, by decide +kernel⟩, List.mem_of_getElem? (i := 31) (by decide +kernel), List.mem_of_getElem? (i := 609) (by decide +kernel), List.mem_of_getElem? (i := 610) (by decide +kernel)⟩
theorem lw_p13 : lw_okq (⟨"StoneCensus$Reader", "readLaw", "(LStoneCensus$Formula;)V"⟩, 10) := ⟨⟨by decide +kernel, by decide +kernel⟩, List.mem_of_getElem? (i := 31) (by decide +kernel), List.mem_of_getElem? (i := 617) (by decide +kernel), List.mem_of_getElem? (i := 618) (by decide +kernel)⟩
theorem lw_p14 : lw_okq (⟨"StoneCensus$Reader", "readEither", "(LStoneCensus$Formula;I)V"⟩, 10) := ⟨⟨by decide +kernel, by decide +kernel⟩, List.mem_of_getElem? (i := 31) (by decide +kernel), List.mem_of_getElem? (i := 621) (by decide +kernel), List.mem_of_getElem? (i := 622) (by decide +kernel)⟩
theorem lw_p15 : lw_okq (⟨"StoneCensus$Reader", "readBoth", "(LStoneCensus$Formula;I)V"⟩, 10) := ⟨⟨by decide +kernel, by decide +kernel⟩, List.mem_of_getElem? (i := 31) (by decide +kernel), List.mem_of_getElem? (i := 625) (by decide +kernel), List.mem_of_getElem? (i := 626) (by decide +kernel)⟩
def lw_privs_1 : List (MethodName × Nat) := [(⟨"StoneCensus$Reader", "advance", "()V"⟩, 10), (⟨"StoneCensus$Reader", "isLetterAt", "(I)Z"⟩, 10), (⟨"StoneCensus$Reader", "scanWord", "()V"⟩, 10), (⟨"StoneCensus$Reader", "refuse", "(I)V"⟩, 10), (⟨"StoneCensus$Reader", "isDigitAt", "(I)Z"⟩, 10), (⟨"StoneCensus$Reader", "scanNumber", "()V"⟩, 10), (⟨"StoneCensus$Reader", "scanSign", "()V"⟩, 10), (⟨"StoneCensus$Reader", "readLine", "(LStoneCensus$Sheet;)V"⟩, 10), (⟨"StoneCensus$Reader", "isWord", "(Ljava/lang/String;)Z"⟩, 10), (⟨"StoneCensus$Reader", "readHouse", "(LStoneCensus$Sheet;)V"⟩, 10), (⟨"StoneCensus$Reader", "takeName", "(LStoneCensus$Sheet;)J"⟩, 10), (⟨"StoneCensus$Reader", "standsForItself", "()Z"⟩, 10), (⟨"StoneCensus$Reader", "takeTold", "(Ljava/lang/String;I)I"⟩, 10), (⟨"StoneCensus$Reader", "readLaw", "(LStoneCensus$Formula;)V"⟩, 10), (⟨"StoneCensus$Reader", "readEither", "(LStoneCensus$Formula;I)V"⟩, 10), (⟨"StoneCensus$Reader", "readBoth", "(LStoneCensus$Formula;I)V"⟩, 10)]
theorem lw_r1 : ∀ q ∈ lw_privs_1, lw_okq q := List.forall_mem_cons.mpr ⟨lw_p0, List.forall_mem_cons.mpr ⟨lw_p1, List.forall_mem_cons.mpr ⟨lw_p2, List.forall_mem_cons.mpr ⟨lw_p3, List.forall_mem_cons.mpr ⟨lw_p4, List.forall_mem_cons.mpr ⟨lw_p5, List.forall_mem_cons.mpr ⟨lw_p6, List.forall_mem_cons.mpr ⟨lw_p7, List.forall_mem_cons.mpr ⟨lw_p8, List.forall_mem_cons.mpr ⟨lw_p9, List.forall_mem_cons.mpr ⟨lw_p10, List.forall_mem_cons.mpr ⟨lw_p11, List.forall_mem_cons.mpr ⟨lw_p12, List.forall_mem_cons.mpr ⟨lw_p13, List.forall_mem_cons.mpr ⟨lw_p14, List.forall_mem_cons.mpr ⟨lw_p15, fun _ h => absurd h List.not_mem_nil⟩⟩⟩⟩⟩⟩⟩⟩⟩⟩⟩⟩⟩⟩⟩⟩
theorem lw_p16 : lw_okq (⟨"StoneCensus$Reader", "readOne", "(LStoneCensus$Formula;I)V"⟩, 10) := ⟨⟨by decide +kernel, by decide +kernel⟩, List.mem_of_getElem? (i := 31) (by decide +kernel), List.mem_of_getElem? (i := 629) (by decide +kernel), List.mem_of_getElem? (i := 630) (by decide +kernel)⟩
theorem lw_p17 : lw_okq (⟨"StoneCensus$Reader", "readSum", "(LStoneCensus$Formula;I)V"⟩, 10) := ⟨⟨by decide +kernel, by decide +kernel⟩, List.mem_of_getElem? (i := 31) (by decide +kernel), List.mem_of_getElem? (i := 637) (by decide +kernel), List.mem_of_getElem? (i := 638) (by decide +kernel)⟩
theorem lw_p18 : lw_okq (⟨"StoneCensus$Reader", "readTerm", "(LStoneCensus$Formula;I)V"⟩, 10) := ⟨⟨by decide +kernel, by decide +kernel⟩, List.mem_of_getElem? (i := 31) (by decide +kernel), List.mem_of_getElem? (i := 641) (by decide +kernel), List.mem_of_getElem? (i := 642) (by decide +kernel)⟩
theorem lw_p19 : lw_okq (⟨"StoneCensus$Reader", "readUnit", "(LStoneCensus$Formula;I)V"⟩, 10) := ⟨⟨by decide +kernel, by decide +kernel⟩, List.mem_of_getElem? (i := 31) (by decide +kernel), List.mem_of_getElem? (i := 645) (by decide +kernel), List.mem_of_getElem? (i := 646) (by decide +kernel)⟩
theorem lw_p20 : lw_okq (⟨"StoneCensus$Reader", "valueNamed", "()I"⟩, 10) := ⟨⟨by decide +kernel, by decide +kernel⟩, List.mem_of_getElem? (i := 31) (by decide +kernel), List.mem_of_getElem? (i := 649) (by decide +kernel), List.mem_of_getElem? (i := 650) (by decide +kernel)⟩
theorem lw_p21 : lw_okq (⟨"StoneCensus$Reader", "isSign", "(C)Z"⟩, 10) := ⟨⟨by decide +kernel, by decide +kernel⟩, List.mem_of_getElem? (i := 31) (by decide +kernel), List.mem_of_getElem? (i := 653) (by decide +kernel), List.mem_of_getElem? (i := 654) (by decide +kernel)⟩
theorem lw_p22 : lw_okq (⟨"StoneCensus$Reader", "takeSign", "(C)V"⟩, 10) := ⟨⟨by decide +kernel, by decide +kernel⟩, List.mem_of_getElem? (i := 31) (by decide +kernel), List.mem_of_getElem? (i := 657) (by decide +kernel), List.mem_of_getElem? (i := 658) (by decide +kernel)⟩
theorem lw_p23 : lw_okq (⟨"StoneCensus$Reader", "readDraw", "(LStoneCensus$Sheet;)V"⟩, 10) := ⟨⟨by decide +kernel, by decide +kernel⟩, List.mem_of_getElem? (i := 31) (by decide +kernel), List.mem_of_getElem? (i := 661) (by decide +kernel), List.mem_of_getElem? (i := 662) (by decide +kernel)⟩
theorem lw_p24 : lw_okq (⟨"StoneCensus$History", "copyFrom", "([I)V"⟩, 6) := ⟨⟨by decide +kernel, by decide +kernel⟩, List.mem_of_getElem? (i := 157) (by decide +kernel), List.mem_of_getElem? (i := 679) (by decide +kernel), List.mem_of_getElem? (i := 680) (by decide +kernel)⟩
theorem lw_p25 : lw_okq (⟨"StoneCensus", "isHouse", "(I)Z"⟩, 15) := ⟨⟨by decide +kernel, by decide +kernel⟩, List.mem_of_getElem? (i := 23) (by decide +kernel), List.mem_of_getElem? (i := 704) (by decide +kernel), List.mem_of_getElem? (i := 705) (by decide +kernel)⟩
theorem lw_p26 : lw_okq (⟨"StoneCensus$Sheet", "setValues", "(IIIIII)V"⟩, 12) := ⟨⟨by decide +kernel, by decide +kernel⟩, List.mem_of_getElem? (i := 72) (by decide +kernel), List.mem_of_getElem? (i := 725) (by decide +kernel), List.mem_of_getElem? (i := 726) (by decide +kernel)⟩
theorem lw_p27 : lw_okq (⟨"StoneCensus", "sumOf", "(I)I"⟩, 15) := ⟨⟨by decide +kernel, by decide +kernel⟩, List.mem_of_getElem? (i := 23) (by decide +kernel), List.mem_of_getElem? (i := 747) (by decide +kernel), List.mem_of_getElem? (i := 748) (by decide +kernel)⟩
theorem lw_p28 : lw_okq (⟨"StoneCensus", "leaveOne", "(I)V"⟩, 15) := ⟨⟨by decide +kernel, by decide +kernel⟩, List.mem_of_getElem? (i := 23) (by decide +kernel), List.mem_of_getElem? (i := 764) (by decide +kernel), List.mem_of_getElem? (i := 765) (by decide +kernel)⟩
theorem lw_p29 : lw_okq (⟨"StoneCensus$Sheet", "sendMagpie", "([I)V"⟩, 12) := ⟨⟨by decide +kernel, by decide +kernel⟩, List.mem_of_getElem? (i := 72) (by decide +kernel), List.mem_of_getElem? (i := 789) (by decide +kernel), List.mem_of_getElem? (i := 790) (by decide +kernel)⟩
theorem lw_p30 : lw_okq (⟨"StoneCensus$Sheet", "growHouse", "([II)V"⟩, 12) := ⟨⟨by decide +kernel, by decide +kernel⟩, List.mem_of_getElem? (i := 72) (by decide +kernel), List.mem_of_getElem? (i := 794) (by decide +kernel), List.mem_of_getElem? (i := 795) (by decide +kernel)⟩
theorem lw_p31 : lw_okq (⟨"StoneCensus", "allBowls", "([I)I"⟩, 15) := ⟨⟨by decide +kernel, by decide +kernel⟩, List.mem_of_getElem? (i := 23) (by decide +kernel), List.mem_of_getElem? (i := 798) (by decide +kernel), List.mem_of_getElem? (i := 799) (by decide +kernel)⟩
def lw_privs_2 : List (MethodName × Nat) := [(⟨"StoneCensus$Reader", "readOne", "(LStoneCensus$Formula;I)V"⟩, 10), (⟨"StoneCensus$Reader", "readSum", "(LStoneCensus$Formula;I)V"⟩, 10), (⟨"StoneCensus$Reader", "readTerm", "(LStoneCensus$Formula;I)V"⟩, 10), (⟨"StoneCensus$Reader", "readUnit", "(LStoneCensus$Formula;I)V"⟩, 10), (⟨"StoneCensus$Reader", "valueNamed", "()I"⟩, 10), (⟨"StoneCensus$Reader", "isSign", "(C)Z"⟩, 10), (⟨"StoneCensus$Reader", "takeSign", "(C)V"⟩, 10), (⟨"StoneCensus$Reader", "readDraw", "(LStoneCensus$Sheet;)V"⟩, 10), (⟨"StoneCensus$History", "copyFrom", "([I)V"⟩, 6), (⟨"StoneCensus", "isHouse", "(I)Z"⟩, 15), (⟨"StoneCensus$Sheet", "setValues", "(IIIIII)V"⟩, 12), (⟨"StoneCensus", "sumOf", "(I)I"⟩, 15), (⟨"StoneCensus", "leaveOne", "(I)V"⟩, 15), (⟨"StoneCensus$Sheet", "sendMagpie", "([I)V"⟩, 12), (⟨"StoneCensus$Sheet", "growHouse", "([II)V"⟩, 12), (⟨"StoneCensus", "allBowls", "([I)I"⟩, 15)]
theorem lw_r2 : ∀ q ∈ lw_privs_2, lw_okq q := List.forall_mem_cons.mpr ⟨lw_p16, List.forall_mem_cons.mpr ⟨lw_p17, List.forall_mem_cons.mpr ⟨lw_p18, List.forall_mem_cons.mpr ⟨lw_p19, List.forall_mem_cons.mpr ⟨lw_p20, List.forall_mem_cons.mpr ⟨lw_p21, List.forall_mem_cons.mpr ⟨lw_p22, List.forall_mem_cons.mpr ⟨lw_p23, List.forall_mem_cons.mpr ⟨lw_p24, List.forall_mem_cons.mpr ⟨lw_p25, List.forall_mem_cons.mpr ⟨lw_p26, List.forall_mem_cons.mpr ⟨lw_p27, List.forall_mem_cons.mpr ⟨lw_p28, List.forall_mem_cons.mpr ⟨lw_p29, List.forall_mem_cons.mpr ⟨lw_p30, List.forall_mem_cons.mpr ⟨lw_p31, fun _ h => absurd h List.not_mem_nil⟩⟩⟩⟩⟩⟩⟩⟩⟩⟩⟩⟩⟩⟩⟩⟩
theorem lw_p32 : lw_okq (⟨"StoneCensus$History", "copyTo", "([I)V"⟩, 6) := ⟨⟨by decide +kernel, by decide +kernel⟩, List.mem_of_getElem? (i := 157) (by decide +kernel), List.mem_of_getElem? (i := 810) (by decide +kernel), List.mem_of_getElem? (i := 811) (by decide +kernel)⟩
theorem lw_p33 : lw_okq (⟨"StoneCensus", "foresee", "(I)V"⟩, 15) := ⟨⟨by decide +kernel, by decide +kernel⟩, List.mem_of_getElem? (i := 23) (by decide +kernel), List.mem_of_getElem? (i := 833) (by decide +kernel), List.mem_of_getElem? (i := 834) (by decide +kernel)⟩
theorem lw_p34 : lw_okq (⟨"StoneCensus$Hiding", "weighFromTheEnd", "()V"⟩, 4) := ⟨⟨by decide +kernel, by decide +kernel⟩, List.mem_of_getElem? (i := 188) (by decide +kernel), List.mem_of_getElem? (i := 860) (by decide +kernel), List.mem_of_getElem? (i := 861) (by decide +kernel)⟩
theorem lw_p35 : lw_okq (⟨"StoneCensus$Hiding", "cheapestFrom", "(II)I"⟩, 4) := ⟨⟨by decide +kernel, by decide +kernel⟩, List.mem_of_getElem? (i := 188) (by decide +kernel), List.mem_of_getElem? (i := 865) (by decide +kernel), List.mem_of_getElem? (i := 866) (by decide +kernel)⟩
theorem lw_p36 : lw_okq (⟨"StoneCensus$Hiding", "pickFirst", "(II)V"⟩, 4) := ⟨⟨by decide +kernel, by decide +kernel⟩, List.mem_of_getElem? (i := 188) (by decide +kernel), List.mem_of_getElem? (i := 870) (by decide +kernel), List.mem_of_getElem? (i := 871) (by decide +kernel)⟩
theorem lw_p37 : lw_okq (⟨"StoneCensus$Hiding", "firstThatFits", "(III)I"⟩, 4) := ⟨⟨by decide +kernel, by decide +kernel⟩, List.mem_of_getElem? (i := 188) (by decide +kernel), List.mem_of_getElem? (i := 874) (by decide +kernel), List.mem_of_getElem? (i := 875) (by decide +kernel)⟩
theorem lw_p38 : lw_okq (⟨"StoneCensus", "lay", "([II)V"⟩, 15) := ⟨⟨by decide +kernel, by decide +kernel⟩, List.mem_of_getElem? (i := 23) (by decide +kernel), List.mem_of_getElem? (i := 878) (by decide +kernel), List.mem_of_getElem? (i := 879) (by decide +kernel)⟩
theorem lw_p39 : lw_okq (⟨"StoneCensus$Road", "sendFrom", "(IIII)Z"⟩, 9) := ⟨⟨by decide +kernel, by decide +kernel⟩, List.mem_of_getElem? (i := 209) (by decide +kernel), List.mem_of_getElem? (i := 904) (by decide +kernel), List.mem_of_getElem? (i := 905) (by decide +kernel)⟩
theorem lw_p40 : lw_okq (⟨"StoneCensus$Road", "busyWith", "(II)I"⟩, 9) := ⟨⟨by decide +kernel, by decide +kernel⟩, List.mem_of_getElem? (i := 209) (by decide +kernel), List.mem_of_getElem? (i := 908) (by decide +kernel), List.mem_of_getElem? (i := 909) (by decide +kernel)⟩
theorem lw_p41 : lw_okq (⟨"StoneCensus$Road", "putBack", "(III)V"⟩, 9) := ⟨⟨by decide +kernel, by decide +kernel⟩, List.mem_of_getElem? (i := 209) (by decide +kernel), List.mem_of_getElem? (i := 913) (by decide +kernel), List.mem_of_getElem? (i := 914) (by decide +kernel)⟩
theorem lw_p42 : lw_okq (⟨"StoneCensus$Road", "soonestFrom", "(IIII)I"⟩, 9) := ⟨⟨by decide +kernel, by decide +kernel⟩, List.mem_of_getElem? (i := 209) (by decide +kernel), List.mem_of_getElem? (i := 925) (by decide +kernel), List.mem_of_getElem? (i := 926) (by decide +kernel)⟩
theorem lw_p43 : lw_okq (⟨"StoneCensus$Seating", "shareByRests", "(II)V"⟩, 5) := ⟨⟨by decide +kernel, by decide +kernel⟩, List.mem_of_getElem? (i := 245) (by decide +kernel), List.mem_of_getElem? (i := 952) (by decide +kernel), List.mem_of_getElem? (i := 953) (by decide +kernel)⟩
theorem lw_p44 : lw_okq (⟨"StoneCensus$Seating", "greatestRest", "()I"⟩, 5) := ⟨⟨by decide +kernel, by decide +kernel⟩, List.mem_of_getElem? (i := 245) (by decide +kernel), List.mem_of_getElem? (i := 956) (by decide +kernel), List.mem_of_getElem? (i := 957) (by decide +kernel)⟩
theorem lw_p45 : lw_okq (⟨"StoneCensus$Seating", "shareOneByOne", "(I)V"⟩, 5) := ⟨⟨by decide +kernel, by decide +kernel⟩, List.mem_of_getElem? (i := 245) (by decide +kernel), List.mem_of_getElem? (i := 960) (by decide +kernel), List.mem_of_getElem? (i := 961) (by decide +kernel)⟩
theorem lw_p46 : lw_okq (⟨"StoneCensus$Seating", "isChanged", "()Z"⟩, 5) := ⟨⟨by decide +kernel, by decide +kernel⟩, List.mem_of_getElem? (i := 245) (by decide +kernel), List.mem_of_getElem? (i := 973) (by decide +kernel), List.mem_of_getElem? (i := 974) (by decide +kernel)⟩
theorem lw_p47 : lw_okq (⟨"StoneCensus", "fullest", "([I)I"⟩, 15) := ⟨⟨by decide +kernel, by decide +kernel⟩, List.mem_of_getElem? (i := 23) (by decide +kernel), List.mem_of_getElem? (i := 990) (by decide +kernel), List.mem_of_getElem? (i := 991) (by decide +kernel)⟩
def lw_privs_3 : List (MethodName × Nat) := [(⟨"StoneCensus$History", "copyTo", "([I)V"⟩, 6), (⟨"StoneCensus", "foresee", "(I)V"⟩, 15), (⟨"StoneCensus$Hiding", "weighFromTheEnd", "()V"⟩, 4), (⟨"StoneCensus$Hiding", "cheapestFrom", "(II)I"⟩, 4), (⟨"StoneCensus$Hiding", "pickFirst", "(II)V"⟩, 4), (⟨"StoneCensus$Hiding", "firstThatFits", "(III)I"⟩, 4), (⟨"StoneCensus", "lay", "([II)V"⟩, 15), (⟨"StoneCensus$Road", "sendFrom", "(IIII)Z"⟩, 9), (⟨"StoneCensus$Road", "busyWith", "(II)I"⟩, 9), (⟨"StoneCensus$Road", "putBack", "(III)V"⟩, 9), (⟨"StoneCensus$Road", "soonestFrom", "(IIII)I"⟩, 9), (⟨"StoneCensus$Seating", "shareByRests", "(II)V"⟩, 5), (⟨"StoneCensus$Seating", "greatestRest", "()I"⟩, 5), (⟨"StoneCensus$Seating", "shareOneByOne", "(I)V"⟩, 5), (⟨"StoneCensus$Seating", "isChanged", "()Z"⟩, 5), (⟨"StoneCensus", "fullest", "([I)I"⟩, 15)]
theorem lw_r3 : ∀ q ∈ lw_privs_3, lw_okq q := List.forall_mem_cons.mpr ⟨lw_p32, List.forall_mem_cons.mpr ⟨lw_p33, List.forall_mem_cons.mpr ⟨lw_p34, List.forall_mem_cons.mpr ⟨lw_p35, List.forall_mem_cons.mpr ⟨lw_p36, List.forall_mem_cons.mpr ⟨lw_p37, List.forall_mem_cons.mpr ⟨lw_p38, List.forall_mem_cons.mpr ⟨lw_p39, List.forall_mem_cons.mpr ⟨lw_p40, List.forall_mem_cons.mpr ⟨lw_p41, List.forall_mem_cons.mpr ⟨lw_p42, List.forall_mem_cons.mpr ⟨lw_p43, List.forall_mem_cons.mpr ⟨lw_p44, List.forall_mem_cons.mpr ⟨lw_p45, List.forall_mem_cons.mpr ⟨lw_p46, List.forall_mem_cons.mpr ⟨lw_p47, fun _ h => absurd h List.not_mem_nil⟩⟩⟩⟩⟩⟩⟩⟩⟩⟩⟩⟩⟩⟩⟩⟩
theorem lw_p48 : lw_okq (⟨"StoneCensus$Road", "findNeighbours", "()V"⟩, 9) := ⟨⟨by decide +kernel, by decide +kernel⟩, List.mem_of_getElem? (i := 209) (by decide +kernel), List.mem_of_getElem? (i := 1002) (by decide +kernel), List.mem_of_getElem? (i := 1003) (by decide +kernel)⟩
theorem lw_p49 : lw_okq (⟨"StoneCensus$Road", "isBefore", "(II)Z"⟩, 9) := ⟨⟨by decide +kernel, by decide +kernel⟩, List.mem_of_getElem? (i := 209) (by decide +kernel), List.mem_of_getElem? (i := 1006) (by decide +kernel), List.mem_of_getElem? (i := 1007) (by decide +kernel)⟩
theorem lw_p50 : lw_okq (⟨"StoneCensus$Road", "countSteps", "()V"⟩, 9) := ⟨⟨by decide +kernel, by decide +kernel⟩, List.mem_of_getElem? (i := 209) (by decide +kernel), List.mem_of_getElem? (i := 1013) (by decide +kernel), List.mem_of_getElem? (i := 1014) (by decide +kernel)⟩
theorem lw_p51 : lw_okq (⟨"StoneCensus$Road", "fewestFrom", "(I)I"⟩, 9) := ⟨⟨by decide +kernel, by decide +kernel⟩, List.mem_of_getElem? (i := 209) (by decide +kernel), List.mem_of_getElem? (i := 1017) (by decide +kernel), List.mem_of_getElem? (i := 1018) (by decide +kernel)⟩
theorem lw_p52 : lw_okq (⟨"StoneCensus$Road", "afterKnock", "(II)I"⟩, 9) := ⟨⟨by decide +kernel, by decide +kernel⟩, List.mem_of_getElem? (i := 209) (by decide +kernel), List.mem_of_getElem? (i := 1021) (by decide +kernel), List.mem_of_getElem? (i := 1022) (by decide +kernel)⟩
theorem lw_p53 : lw_okq (⟨"StoneCensus$Road", "firstOnTheWay", "(I)I"⟩, 9) := ⟨⟨by decide +kernel, by decide +kernel⟩, List.mem_of_getElem? (i := 209) (by decide +kernel), List.mem_of_getElem? (i := 1025) (by decide +kernel), List.mem_of_getElem? (i := 1026) (by decide +kernel)⟩
theorem lw_p54 : lw_okq (⟨"StoneCensus", "learn", "(I)V"⟩, 15) := ⟨⟨by decide +kernel, by decide +kernel⟩, List.mem_of_getElem? (i := 23) (by decide +kernel), List.mem_of_getElem? (i := 1062) (by decide +kernel), List.mem_of_getElem? (i := 1063) (by decide +kernel)⟩
theorem lw_p55 : lw_okq (⟨"StoneCensus$Truths", "takeReports", "(LStoneCensus$Reports;)I"⟩, 15) := ⟨⟨by decide +kernel, by decide +kernel⟩, List.mem_of_getElem? (i := 302) (by decide +kernel), List.mem_of_getElem? (i := 1074) (by decide +kernel), List.mem_of_getElem? (i := 1075) (by decide +kernel)⟩
theorem lw_p56 : lw_okq (⟨"StoneCensus$Truths", "countFrom", "(I)I"⟩, 15) := ⟨⟨by decide +kernel, by decide +kernel⟩, List.mem_of_getElem? (i := 302) (by decide +kernel), List.mem_of_getElem? (i := 1085) (by decide +kernel), List.mem_of_getElem? (i := 1086) (by decide +kernel)⟩
theorem lw_p57 : lw_okq (⟨"StoneCensus$Truths", "highest", "(I)I"⟩, 15) := ⟨⟨by decide +kernel, by decide +kernel⟩, List.mem_of_getElem? (i := 302) (by decide +kernel), List.mem_of_getElem? (i := 1089) (by decide +kernel), List.mem_of_getElem? (i := 1090) (by decide +kernel)⟩
theorem lw_p58 : lw_okq (⟨"StoneCensus$Truths", "lowest", "(I)I"⟩, 15) := ⟨⟨by decide +kernel, by decide +kernel⟩, List.mem_of_getElem? (i := 302) (by decide +kernel), List.mem_of_getElem? (i := 1093) (by decide +kernel), List.mem_of_getElem? (i := 1094) (by decide +kernel)⟩
theorem lw_p59 : lw_okq (⟨"StoneCensus$Liars", "takeReports", "(LStoneCensus$Reports;)I"⟩, 9) := ⟨⟨by decide +kernel, by decide +kernel⟩, List.mem_of_getElem? (i := 380) (by decide +kernel), List.mem_of_getElem? (i := 1122) (by decide +kernel), List.mem_of_getElem? (i := 1123) (by decide +kernel)⟩
theorem lw_p60 : lw_okq (⟨"StoneCensus$Liars", "countOwed", "()V"⟩, 9) := ⟨⟨by decide +kernel, by decide +kernel⟩, List.mem_of_getElem? (i := 380) (by decide +kernel), List.mem_of_getElem? (i := 1127) (by decide +kernel), List.mem_of_getElem? (i := 1128) (by decide +kernel)⟩
theorem lw_p61 : lw_okq (⟨"StoneCensus$Liars", "leastAgainst", "(I)I"⟩, 9) := ⟨⟨by decide +kernel, by decide +kernel⟩, List.mem_of_getElem? (i := 380) (by decide +kernel), List.mem_of_getElem? (i := 1131) (by decide +kernel), List.mem_of_getElem? (i := 1132) (by decide +kernel)⟩
theorem lw_p62 : lw_okq (⟨"StoneCensus$Liars", "searchFrom", "(II)V"⟩, 9) := ⟨⟨by decide +kernel, by decide +kernel⟩, List.mem_of_getElem? (i := 380) (by decide +kernel), List.mem_of_getElem? (i := 1142) (by decide +kernel), List.mem_of_getElem? (i := 1143) (by decide +kernel)⟩
theorem lw_p63 : lw_okq (⟨"StoneCensus$Liars", "againstWith", "(II)I"⟩, 9) := ⟨⟨by decide +kernel, by decide +kernel⟩, List.mem_of_getElem? (i := 380) (by decide +kernel), List.mem_of_getElem? (i := 1147) (by decide +kernel), List.mem_of_getElem? (i := 1148) (by decide +kernel)⟩
def lw_privs_4 : List (MethodName × Nat) := [(⟨"StoneCensus$Road", "findNeighbours", "()V"⟩, 9), (⟨"StoneCensus$Road", "isBefore", "(II)Z"⟩, 9), (⟨"StoneCensus$Road", "countSteps", "()V"⟩, 9), (⟨"StoneCensus$Road", "fewestFrom", "(I)I"⟩, 9), (⟨"StoneCensus$Road", "afterKnock", "(II)I"⟩, 9), (⟨"StoneCensus$Road", "firstOnTheWay", "(I)I"⟩, 9), (⟨"StoneCensus", "learn", "(I)V"⟩, 15), (⟨"StoneCensus$Truths", "takeReports", "(LStoneCensus$Reports;)I"⟩, 15), (⟨"StoneCensus$Truths", "countFrom", "(I)I"⟩, 15), (⟨"StoneCensus$Truths", "highest", "(I)I"⟩, 15), (⟨"StoneCensus$Truths", "lowest", "(I)I"⟩, 15), (⟨"StoneCensus$Liars", "takeReports", "(LStoneCensus$Reports;)I"⟩, 9), (⟨"StoneCensus$Liars", "countOwed", "()V"⟩, 9), (⟨"StoneCensus$Liars", "leastAgainst", "(I)I"⟩, 9), (⟨"StoneCensus$Liars", "searchFrom", "(II)V"⟩, 9), (⟨"StoneCensus$Liars", "againstWith", "(II)I"⟩, 9)]
theorem lw_r4 : ∀ q ∈ lw_privs_4, lw_okq q := List.forall_mem_cons.mpr ⟨lw_p48, List.forall_mem_cons.mpr ⟨lw_p49, List.forall_mem_cons.mpr ⟨lw_p50, List.forall_mem_cons.mpr ⟨lw_p51, List.forall_mem_cons.mpr ⟨lw_p52, List.forall_mem_cons.mpr ⟨lw_p53, List.forall_mem_cons.mpr ⟨lw_p54, List.forall_mem_cons.mpr ⟨lw_p55, List.forall_mem_cons.mpr ⟨lw_p56, List.forall_mem_cons.mpr ⟨lw_p57, List.forall_mem_cons.mpr ⟨lw_p58, List.forall_mem_cons.mpr ⟨lw_p59, List.forall_mem_cons.mpr ⟨lw_p60, List.forall_mem_cons.mpr ⟨lw_p61, List.forall_mem_cons.mpr ⟨lw_p62, List.forall_mem_cons.mpr ⟨lw_p63, fun _ h => absurd h List.not_mem_nil⟩⟩⟩⟩⟩⟩⟩⟩⟩⟩⟩⟩⟩⟩⟩⟩
theorem lw_p64 : lw_okq (⟨"StoneCensus$Truths", "findTelling", "()I"⟩, 15) := ⟨⟨by decide +kernel, by decide +kernel⟩, List.mem_of_getElem? (i := 302) (by decide +kernel), List.mem_of_getElem? (i := 1173) (by decide +kernel), List.mem_of_getElem? (i := 1174) (by decide +kernel)⟩
theorem lw_p65 : lw_okq (⟨"StoneCensus$Truths", "gatherFrom", "(II)V"⟩, 15) := ⟨⟨by decide +kernel, by decide +kernel⟩, List.mem_of_getElem? (i := 302) (by decide +kernel), List.mem_of_getElem? (i := 1177) (by decide +kernel), List.mem_of_getElem? (i := 1178) (by decide +kernel)⟩
theorem lw_p66 : lw_okq (⟨"StoneCensus$Truths", "tellsApart", "(I)Z"⟩, 15) := ⟨⟨by decide +kernel, by decide +kernel⟩, List.mem_of_getElem? (i := 302) (by decide +kernel), List.mem_of_getElem? (i := 1182) (by decide +kernel), List.mem_of_getElem? (i := 1183) (by decide +kernel)⟩
theorem lw_p67 : lw_okq (⟨"StoneCensus$Truths", "partOf", "(II)I"⟩, 15) := ⟨⟨by decide +kernel, by decide +kernel⟩, List.mem_of_getElem? (i := 302) (by decide +kernel), List.mem_of_getElem? (i := 1186) (by decide +kernel), List.mem_of_getElem? (i := 1187) (by decide +kernel)⟩
theorem lw_p68 : lw_okq (⟨"StoneCensusModel", "four", "(I)V"⟩, 73) := ⟨⟨by decide +kernel, by decide +kernel⟩, List.mem_of_getElem? (i := 1222) (by decide +kernel), List.mem_of_getElem? (i := 1453) (by decide +kernel), List.mem_of_getElem? (i := 1454) (by decide +kernel)⟩
theorem lw_p69 : lw_okq (⟨"StoneCensusModel", "readAll", "()V"⟩, 73) := ⟨⟨by decide +kernel, by decide +kernel⟩, List.mem_of_getElem? (i := 1222) (by decide +kernel), List.mem_of_getElem? (i := 1465) (by decide +kernel), List.mem_of_getElem? (i := 1466) (by decide +kernel)⟩
theorem lw_p70 : lw_okq (⟨"StoneCensusModel", "token", "()V"⟩, 73) := ⟨⟨by decide +kernel, by decide +kernel⟩, List.mem_of_getElem? (i := 1222) (by decide +kernel), List.mem_of_getElem? (i := 1469) (by decide +kernel), List.mem_of_getElem? (i := 1470) (by decide +kernel)⟩
theorem lw_p71 : lw_okq (⟨"StoneCensusModel", "here", "(I)I"⟩, 73) := ⟨⟨by decide +kernel, by decide +kernel⟩, List.mem_of_getElem? (i := 1222) (by decide +kernel), List.mem_of_getElem? (i := 1473) (by decide +kernel), List.mem_of_getElem? (i := 1474) (by decide +kernel)⟩
theorem lw_p72 : lw_okq (⟨"StoneCensusModel", "readLine", "()V"⟩, 73) := ⟨⟨by decide +kernel, by decide +kernel⟩, List.mem_of_getElem? (i := 1222) (by decide +kernel), List.mem_of_getElem? (i := 1486) (by decide +kernel), List.mem_of_getElem? (i := 1487) (by decide +kernel)⟩
theorem lw_p73 : lw_okq (⟨"StoneCensusModel", "isWord", "(J)Z"⟩, 73) := ⟨⟨by decide +kernel, by decide +kernel⟩, List.mem_of_getElem? (i := 1222) (by decide +kernel), List.mem_of_getElem? (i := 1491) (by decide +kernel), List.mem_of_getElem? (i := 1492) (by decide +kernel)⟩
theorem lw_p74 : lw_okq (⟨"StoneCensusModel", "readHouse", "()V"⟩, 73) := ⟨⟨by decide +kernel, by decide +kernel⟩, List.mem_of_getElem? (i := 1222) (by decide +kernel), List.mem_of_getElem? (i := 1495) (by decide +kernel), List.mem_of_getElem? (i := 1496) (by decide +kernel)⟩
theorem lw_p75 : lw_okq (⟨"StoneCensusModel", "isName", "()Z"⟩, 73) := ⟨⟨by decide +kernel, by decide +kernel⟩, List.mem_of_getElem? (i := 1222) (by decide +kernel), List.mem_of_getElem? (i := 1499) (by decide +kernel), List.mem_of_getElem? (i := 1500) (by decide +kernel)⟩
theorem lw_p76 : lw_okq (⟨"StoneCensusModel", "isOwn", "()Z"⟩, 73) := ⟨⟨by decide +kernel, by decide +kernel⟩, List.mem_of_getElem? (i := 1222) (by decide +kernel), List.mem_of_getElem? (i := 1503) (by decide +kernel), List.mem_of_getElem? (i := 1504) (by decide +kernel)⟩
theorem lw_p77 : lw_okq (⟨"StoneCensusModel", "wrong", "(I)V"⟩, 73) := ⟨⟨by decide +kernel, by decide +kernel⟩, List.mem_of_getElem? (i := 1222) (by decide +kernel), List.mem_of_getElem? (i := 1521) (by decide +kernel), List.mem_of_getElem? (i := 1522) (by decide +kernel)⟩
theorem lw_p78 : lw_okq (⟨"StoneCensusModel", "find", "()I"⟩, 73) := ⟨⟨by decide +kernel, by decide +kernel⟩, List.mem_of_getElem? (i := 1222) (by decide +kernel), List.mem_of_getElem? (i := 1525) (by decide +kernel), List.mem_of_getElem? (i := 1526) (by decide +kernel)⟩
theorem lw_p79 : lw_okq (⟨"StoneCensusModel", "told", "(JII)I"⟩, 73) := ⟨⟨by decide +kernel, by decide +kernel⟩, List.mem_of_getElem? (i := 1222) (by decide +kernel), List.mem_of_getElem? (i := 1529) (by decide +kernel), List.mem_of_getElem? (i := 1530) (by decide +kernel)⟩
def lw_privs_5 : List (MethodName × Nat) := [(⟨"StoneCensus$Truths", "findTelling", "()I"⟩, 15), (⟨"StoneCensus$Truths", "gatherFrom", "(II)V"⟩, 15), (⟨"StoneCensus$Truths", "tellsApart", "(I)Z"⟩, 15), (⟨"StoneCensus$Truths", "partOf", "(II)I"⟩, 15), (⟨"StoneCensusModel", "four", "(I)V"⟩, 73), (⟨"StoneCensusModel", "readAll", "()V"⟩, 73), (⟨"StoneCensusModel", "token", "()V"⟩, 73), (⟨"StoneCensusModel", "here", "(I)I"⟩, 73), (⟨"StoneCensusModel", "readLine", "()V"⟩, 73), (⟨"StoneCensusModel", "isWord", "(J)Z"⟩, 73), (⟨"StoneCensusModel", "readHouse", "()V"⟩, 73), (⟨"StoneCensusModel", "isName", "()Z"⟩, 73), (⟨"StoneCensusModel", "isOwn", "()Z"⟩, 73), (⟨"StoneCensusModel", "wrong", "(I)V"⟩, 73), (⟨"StoneCensusModel", "find", "()I"⟩, 73), (⟨"StoneCensusModel", "told", "(JII)I"⟩, 73)]
theorem lw_r5 : ∀ q ∈ lw_privs_5, lw_okq q := List.forall_mem_cons.mpr ⟨lw_p64, List.forall_mem_cons.mpr ⟨lw_p65, List.forall_mem_cons.mpr ⟨lw_p66, List.forall_mem_cons.mpr ⟨lw_p67, List.forall_mem_cons.mpr ⟨lw_p68, List.forall_mem_cons.mpr ⟨lw_p69, List.forall_mem_cons.mpr ⟨lw_p70, List.forall_mem_cons.mpr ⟨lw_p71, List.forall_mem_cons.mpr ⟨lw_p72, List.forall_mem_cons.mpr ⟨lw_p73, List.forall_mem_cons.mpr ⟨lw_p74, List.forall_mem_cons.mpr ⟨lw_p75, List.forall_mem_cons.mpr ⟨lw_p76, List.forall_mem_cons.mpr ⟨lw_p77, List.forall_mem_cons.mpr ⟨lw_p78, List.forall_mem_cons.mpr ⟨lw_p79, fun _ h => absurd h List.not_mem_nil⟩⟩⟩⟩⟩⟩⟩⟩⟩⟩⟩⟩⟩⟩⟩⟩
theorem lw_p80 : lw_okq (⟨"StoneCensusModel", "want", "(J)V"⟩, 73) := ⟨⟨by decide +kernel, by decide +kernel⟩, List.mem_of_getElem? (i := 1222) (by decide +kernel), List.mem_of_getElem? (i := 1533) (by decide +kernel), List.mem_of_getElem? (i := 1534) (by decide +kernel)⟩
theorem lw_p81 : lw_okq (⟨"StoneCensusModel", "toldNumber", "(II)I"⟩, 73) := ⟨⟨by decide +kernel, by decide +kernel⟩, List.mem_of_getElem? (i := 1222) (by decide +kernel), List.mem_of_getElem? (i := 1537) (by decide +kernel), List.mem_of_getElem? (i := 1538) (by decide +kernel)⟩
theorem lw_p82 : lw_okq (⟨"StoneCensusModel", "option", "(J)I"⟩, 73) := ⟨⟨by decide +kernel, by decide +kernel⟩, List.mem_of_getElem? (i := 1222) (by decide +kernel), List.mem_of_getElem? (i := 1541) (by decide +kernel), List.mem_of_getElem? (i := 1542) (by decide +kernel)⟩
theorem lw_p83 : lw_okq (⟨"StoneCensusModel", "formula", "(I)V"⟩, 73) := ⟨⟨by decide +kernel, by decide +kernel⟩, List.mem_of_getElem? (i := 1222) (by decide +kernel), List.mem_of_getElem? (i := 1545) (by decide +kernel), List.mem_of_getElem? (i := 1546) (by decide +kernel)⟩
theorem lw_p84 : lw_okq (⟨"StoneCensusModel", "unit", "()V"⟩, 73) := ⟨⟨by decide +kernel, by decide +kernel⟩, List.mem_of_getElem? (i := 1222) (by decide +kernel), List.mem_of_getElem? (i := 1549) (by decide +kernel), List.mem_of_getElem? (i := 1550) (by decide +kernel)⟩
theorem lw_p85 : lw_okq (⟨"StoneCensusModel", "mayNot", "()Z"⟩, 73) := ⟨⟨by decide +kernel, by decide +kernel⟩, List.mem_of_getElem? (i := 1222) (by decide +kernel), List.mem_of_getElem? (i := 1553) (by decide +kernel), List.mem_of_getElem? (i := 1554) (by decide +kernel)⟩
theorem lw_p86 : lw_okq (⟨"StoneCensusModel", "openUp", "(I)V"⟩, 73) := ⟨⟨by decide +kernel, by decide +kernel⟩, List.mem_of_getElem? (i := 1222) (by decide +kernel), List.mem_of_getElem? (i := 1560) (by decide +kernel), List.mem_of_getElem? (i := 1561) (by decide +kernel)⟩
theorem lw_p87 : lw_okq (⟨"StoneCensusModel", "isFull", "()Z"⟩, 73) := ⟨⟨by decide +kernel, by decide +kernel⟩, List.mem_of_getElem? (i := 1222) (by decide +kernel), List.mem_of_getElem? (i := 1564) (by decide +kernel), List.mem_of_getElem? (i := 1565) (by decide +kernel)⟩
theorem lw_p88 : lw_okq (⟨"StoneCensusModel", "countUnit", "()V"⟩, 73) := ⟨⟨by decide +kernel, by decide +kernel⟩, List.mem_of_getElem? (i := 1222) (by decide +kernel), List.mem_of_getElem? (i := 1568) (by decide +kernel), List.mem_of_getElem? (i := 1569) (by decide +kernel)⟩
theorem lw_p89 : lw_okq (⟨"StoneCensusModel", "asked", "()I"⟩, 73) := ⟨⟨by decide +kernel, by decide +kernel⟩, List.mem_of_getElem? (i := 1222) (by decide +kernel), List.mem_of_getElem? (i := 1572) (by decide +kernel), List.mem_of_getElem? (i := 1573) (by decide +kernel)⟩
theorem lw_p90 : lw_okq (⟨"StoneCensusModel", "add", "(II)V"⟩, 73) := ⟨⟨by decide +kernel, by decide +kernel⟩, List.mem_of_getElem? (i := 1222) (by decide +kernel), List.mem_of_getElem? (i := 1576) (by decide +kernel), List.mem_of_getElem? (i := 1577) (by decide +kernel)⟩
theorem lw_p91 : lw_okq (⟨"StoneCensusModel", "sign", "()I"⟩, 73) := ⟨⟨by decide +kernel, by decide +kernel⟩, List.mem_of_getElem? (i := 1222) (by decide +kernel), List.mem_of_getElem? (i := 1580) (by decide +kernel), List.mem_of_getElem? (i := 1581) (by decide +kernel)⟩
theorem lw_p92 : lw_okq (⟨"StoneCensusModel", "hasBracket", "()Z"⟩, 73) := ⟨⟨by decide +kernel, by decide +kernel⟩, List.mem_of_getElem? (i := 1222) (by decide +kernel), List.mem_of_getElem? (i := 1584) (by decide +kernel), List.mem_of_getElem? (i := 1585) (by decide +kernel)⟩
theorem lw_p93 : lw_okq (⟨"StoneCensusModel", "close", "(I)V"⟩, 73) := ⟨⟨by decide +kernel, by decide +kernel⟩, List.mem_of_getElem? (i := 1222) (by decide +kernel), List.mem_of_getElem? (i := 1588) (by decide +kernel), List.mem_of_getElem? (i := 1589) (by decide +kernel)⟩
theorem lw_p94 : lw_okq (⟨"StoneCensusModel", "hasRelation", "()Z"⟩, 73) := ⟨⟨by decide +kernel, by decide +kernel⟩, List.mem_of_getElem? (i := 1222) (by decide +kernel), List.mem_of_getElem? (i := 1592) (by decide +kernel), List.mem_of_getElem? (i := 1593) (by decide +kernel)⟩
theorem lw_p95 : lw_okq (⟨"StoneCensusModel", "isHouse", "(I)Z"⟩, 73) := ⟨⟨by decide +kernel, by decide +kernel⟩, List.mem_of_getElem? (i := 1222) (by decide +kernel), List.mem_of_getElem? (i := 1604) (by decide +kernel), List.mem_of_getElem? (i := 1605) (by decide +kernel)⟩
def lw_privs_6 : List (MethodName × Nat) := [(⟨"StoneCensusModel", "want", "(J)V"⟩, 73), (⟨"StoneCensusModel", "toldNumber", "(II)I"⟩, 73), (⟨"StoneCensusModel", "option", "(J)I"⟩, 73), (⟨"StoneCensusModel", "formula", "(I)V"⟩, 73), (⟨"StoneCensusModel", "unit", "()V"⟩, 73), (⟨"StoneCensusModel", "mayNot", "()Z"⟩, 73), (⟨"StoneCensusModel", "openUp", "(I)V"⟩, 73), (⟨"StoneCensusModel", "isFull", "()Z"⟩, 73), (⟨"StoneCensusModel", "countUnit", "()V"⟩, 73), (⟨"StoneCensusModel", "asked", "()I"⟩, 73), (⟨"StoneCensusModel", "add", "(II)V"⟩, 73), (⟨"StoneCensusModel", "sign", "()I"⟩, 73), (⟨"StoneCensusModel", "hasBracket", "()Z"⟩, 73), (⟨"StoneCensusModel", "close", "(I)V"⟩, 73), (⟨"StoneCensusModel", "hasRelation", "()Z"⟩, 73), (⟨"StoneCensusModel", "isHouse", "(I)Z"⟩, 73)]
theorem lw_r6 : ∀ q ∈ lw_privs_6, lw_okq q := List.forall_mem_cons.mpr ⟨lw_p80, List.forall_mem_cons.mpr ⟨lw_p81, List.forall_mem_cons.mpr ⟨lw_p82, List.forall_mem_cons.mpr ⟨lw_p83, List.forall_mem_cons.mpr ⟨lw_p84, List.forall_mem_cons.mpr ⟨lw_p85, List.forall_mem_cons.mpr ⟨lw_p86, List.forall_mem_cons.mpr ⟨lw_p87, List.forall_mem_cons.mpr ⟨lw_p88, List.forall_mem_cons.mpr ⟨lw_p89, List.forall_mem_cons.mpr ⟨lw_p90, List.forall_mem_cons.mpr ⟨lw_p91, List.forall_mem_cons.mpr ⟨lw_p92, List.forall_mem_cons.mpr ⟨lw_p93, List.forall_mem_cons.mpr ⟨lw_p94, List.forall_mem_cons.mpr ⟨lw_p95, fun _ h => absurd h List.not_mem_nil⟩⟩⟩⟩⟩⟩⟩⟩⟩⟩⟩⟩⟩⟩⟩⟩
theorem lw_p96 : lw_okq (⟨"StoneCensusModel", "load", "()V"⟩, 73) := ⟨⟨by decide +kernel, by decide +kernel⟩, List.mem_of_getElem? (i := 1222) (by decide +kernel), List.mem_of_getElem? (i := 1611) (by decide +kernel), List.mem_of_getElem? (i := 1612) (by decide +kernel)⟩
theorem lw_p97 : lw_okq (⟨"StoneCensusModel", "stonesOf", "(I)I"⟩, 73) := ⟨⟨by decide +kernel, by decide +kernel⟩, List.mem_of_getElem? (i := 1222) (by decide +kernel), List.mem_of_getElem? (i := 1615) (by decide +kernel), List.mem_of_getElem? (i := 1616) (by decide +kernel)⟩
theorem lw_p98 : lw_okq (⟨"StoneCensusModel", "askOf", "(IIIIII)V"⟩, 73) := ⟨⟨by decide +kernel, by decide +kernel⟩, List.mem_of_getElem? (i := 1222) (by decide +kernel), List.mem_of_getElem? (i := 1619) (by decide +kernel), List.mem_of_getElem? (i := 1620) (by decide +kernel)⟩
theorem lw_p99 : lw_okq (⟨"StoneCensusModel", "worked", "(I)I"⟩, 73) := ⟨⟨by decide +kernel, by decide +kernel⟩, List.mem_of_getElem? (i := 1222) (by decide +kernel), List.mem_of_getElem? (i := 1623) (by decide +kernel), List.mem_of_getElem? (i := 1624) (by decide +kernel)⟩
theorem lw_p100 : lw_okq (⟨"StoneCensusModel", "shows", "(I)Z"⟩, 73) := ⟨⟨by decide +kernel, by decide +kernel⟩, List.mem_of_getElem? (i := 1222) (by decide +kernel), List.mem_of_getElem? (i := 1636) (by decide +kernel), List.mem_of_getElem? (i := 1637) (by decide +kernel)⟩
theorem lw_p101 : lw_okq (⟨"StoneCensusModel", "taxOf", "(II)I"⟩, 73) := ⟨⟨by decide +kernel, by decide +kernel⟩, List.mem_of_getElem? (i := 1222) (by decide +kernel), List.mem_of_getElem? (i := 1640) (by decide +kernel), List.mem_of_getElem? (i := 1641) (by decide +kernel)⟩
theorem lw_p102 : lw_okq (⟨"StoneCensusModel", "partOf", "(II)I"⟩, 73) := ⟨⟨by decide +kernel, by decide +kernel⟩, List.mem_of_getElem? (i := 1222) (by decide +kernel), List.mem_of_getElem? (i := 1648) (by decide +kernel), List.mem_of_getElem? (i := 1649) (by decide +kernel)⟩
theorem lw_p103 : lw_okq (⟨"StoneCensusModel", "act", "()V"⟩, 73) := ⟨⟨by decide +kernel, by decide +kernel⟩, List.mem_of_getElem? (i := 1222) (by decide +kernel), List.mem_of_getElem? (i := 1656) (by decide +kernel), List.mem_of_getElem? (i := 1657) (by decide +kernel)⟩
theorem lw_p104 : lw_okq (⟨"StoneCensusModel", "leaves", "(I)V"⟩, 73) := ⟨⟨by decide +kernel, by decide +kernel⟩, List.mem_of_getElem? (i := 1222) (by decide +kernel), List.mem_of_getElem? (i := 1664) (by decide +kernel), List.mem_of_getElem? (i := 1665) (by decide +kernel)⟩
theorem lw_p105 : lw_okq (⟨"StoneCensusModel", "notMoreHidden", "(I)V"⟩, 73) := ⟨⟨by decide +kernel, by decide +kernel⟩, List.mem_of_getElem? (i := 1222) (by decide +kernel), List.mem_of_getElem? (i := 1668) (by decide +kernel), List.mem_of_getElem? (i := 1669) (by decide +kernel)⟩
theorem lw_p106 : lw_okq (⟨"StoneCensusModel", "keep", "()V"⟩, 73) := ⟨⟨by decide +kernel, by decide +kernel⟩, List.mem_of_getElem? (i := 1222) (by decide +kernel), List.mem_of_getElem? (i := 1672) (by decide +kernel), List.mem_of_getElem? (i := 1673) (by decide +kernel)⟩
theorem lw_p107 : lw_okq (⟨"StoneCensusModel", "goSummer", "()V"⟩, 73) := ⟨⟨by decide +kernel, by decide +kernel⟩, List.mem_of_getElem? (i := 1222) (by decide +kernel), List.mem_of_getElem? (i := 1692) (by decide +kernel), List.mem_of_getElem? (i := 1693) (by decide +kernel)⟩
theorem lw_p108 : lw_okq (⟨"StoneCensusModel", "allBowls", "()I"⟩, 73) := ⟨⟨by decide +kernel, by decide +kernel⟩, List.mem_of_getElem? (i := 1222) (by decide +kernel), List.mem_of_getElem? (i := 1696) (by decide +kernel), List.mem_of_getElem? (i := 1697) (by decide +kernel)⟩
theorem lw_p109 : lw_okq (⟨"StoneCensusModel", "exchange", "(I)V"⟩, 73) := ⟨⟨by decide +kernel, by decide +kernel⟩, List.mem_of_getElem? (i := 1222) (by decide +kernel), List.mem_of_getElem? (i := 1704) (by decide +kernel), List.mem_of_getElem? (i := 1705) (by decide +kernel)⟩
theorem lw_p110 : lw_okq (⟨"StoneCensusModel", "goFar", "(I)V"⟩, 73) := ⟨⟨by decide +kernel, by decide +kernel⟩, List.mem_of_getElem? (i := 1222) (by decide +kernel), List.mem_of_getElem? (i := 1720) (by decide +kernel), List.mem_of_getElem? (i := 1721) (by decide +kernel)⟩
theorem lw_p111 : lw_okq (⟨"StoneCensusModel", "layTaxes", "()V"⟩, 73) := ⟨⟨by decide +kernel, by decide +kernel⟩, List.mem_of_getElem? (i := 1222) (by decide +kernel), List.mem_of_getElem? (i := 1732) (by decide +kernel), List.mem_of_getElem? (i := 1733) (by decide +kernel)⟩
def lw_privs_7 : List (MethodName × Nat) := [(⟨"StoneCensusModel", "load", "()V"⟩, 73), (⟨"StoneCensusModel", "stonesOf", "(I)I"⟩, 73), (⟨"StoneCensusModel", "askOf", "(IIIIII)V"⟩, 73), (⟨"StoneCensusModel", "worked", "(I)I"⟩, 73), (⟨"StoneCensusModel", "shows", "(I)Z"⟩, 73), (⟨"StoneCensusModel", "taxOf", "(II)I"⟩, 73), (⟨"StoneCensusModel", "partOf", "(II)I"⟩, 73), (⟨"StoneCensusModel", "act", "()V"⟩, 73), (⟨"StoneCensusModel", "leaves", "(I)V"⟩, 73), (⟨"StoneCensusModel", "notMoreHidden", "(I)V"⟩, 73), (⟨"StoneCensusModel", "keep", "()V"⟩, 73), (⟨"StoneCensusModel", "goSummer", "()V"⟩, 73), (⟨"StoneCensusModel", "allBowls", "()I"⟩, 73), (⟨"StoneCensusModel", "exchange", "(I)V"⟩, 73), (⟨"StoneCensusModel", "goFar", "(I)V"⟩, 73), (⟨"StoneCensusModel", "layTaxes", "()V"⟩, 73)]
theorem lw_r7 : ∀ q ∈ lw_privs_7, lw_okq q := List.forall_mem_cons.mpr ⟨lw_p96, List.forall_mem_cons.mpr ⟨lw_p97, List.forall_mem_cons.mpr ⟨lw_p98, List.forall_mem_cons.mpr ⟨lw_p99, List.forall_mem_cons.mpr ⟨lw_p100, List.forall_mem_cons.mpr ⟨lw_p101, List.forall_mem_cons.mpr ⟨lw_p102, List.forall_mem_cons.mpr ⟨lw_p103, List.forall_mem_cons.mpr ⟨lw_p104, List.forall_mem_cons.mpr ⟨lw_p105, List.forall_mem_cons.mpr ⟨lw_p106, List.forall_mem_cons.mpr ⟨lw_p107, List.forall_mem_cons.mpr ⟨lw_p108, List.forall_mem_cons.mpr ⟨lw_p109, List.forall_mem_cons.mpr ⟨lw_p110, List.forall_mem_cons.mpr ⟨lw_p111, fun _ h => absurd h List.not_mem_nil⟩⟩⟩⟩⟩⟩⟩⟩⟩⟩⟩⟩⟩⟩⟩⟩
theorem lw_p112 : lw_okq (⟨"StoneCensusModel", "rowsOf", "()I"⟩, 73) := ⟨⟨by decide +kernel, by decide +kernel⟩, List.mem_of_getElem? (i := 1222) (by decide +kernel), List.mem_of_getElem? (i := 1736) (by decide +kernel), List.mem_of_getElem? (i := 1737) (by decide +kernel)⟩
theorem lw_p113 : lw_okq (⟨"StoneCensusModel", "taxOfRow", "(I)I"⟩, 73) := ⟨⟨by decide +kernel, by decide +kernel⟩, List.mem_of_getElem? (i := 1222) (by decide +kernel), List.mem_of_getElem? (i := 1740) (by decide +kernel), List.mem_of_getElem? (i := 1741) (by decide +kernel)⟩
theorem lw_p114 : lw_okq (⟨"StoneCensusModel", "countersRows", "()I"⟩, 73) := ⟨⟨by decide +kernel, by decide +kernel⟩, List.mem_of_getElem? (i := 1222) (by decide +kernel), List.mem_of_getElem? (i := 1752) (by decide +kernel), List.mem_of_getElem? (i := 1753) (by decide +kernel)⟩
theorem lw_p115 : lw_okq (⟨"StoneCensusModel", "layCounters", "(I)I"⟩, 73) := ⟨⟨by decide +kernel, by decide +kernel⟩, List.mem_of_getElem? (i := 1222) (by decide +kernel), List.mem_of_getElem? (i := 1756) (by decide +kernel), List.mem_of_getElem? (i := 1757) (by decide +kernel)⟩
theorem lw_p116 : lw_okq (⟨"StoneCensusModel", "doneAt", "()I"⟩, 73) := ⟨⟨by decide +kernel, by decide +kernel⟩, List.mem_of_getElem? (i := 1222) (by decide +kernel), List.mem_of_getElem? (i := 1760) (by decide +kernel), List.mem_of_getElem? (i := 1761) (by decide +kernel)⟩
theorem lw_p117 : lw_okq (⟨"StoneCensusModel", "without", "(II)I"⟩, 73) := ⟨⟨by decide +kernel, by decide +kernel⟩, List.mem_of_getElem? (i := 1222) (by decide +kernel), List.mem_of_getElem? (i := 1772) (by decide +kernel), List.mem_of_getElem? (i := 1773) (by decide +kernel)⟩
theorem lw_p118 : lw_okq (⟨"StoneCensusModel", "laySeats", "(II)V"⟩, 73) := ⟨⟨by decide +kernel, by decide +kernel⟩, List.mem_of_getElem? (i := 1222) (by decide +kernel), List.mem_of_getElem? (i := 1784) (by decide +kernel), List.mem_of_getElem? (i := 1785) (by decide +kernel)⟩
theorem lw_p119 : lw_okq (⟨"StoneCensusModel", "keepSeats", "()V"⟩, 73) := ⟨⟨by decide +kernel, by decide +kernel⟩, List.mem_of_getElem? (i := 1222) (by decide +kernel), List.mem_of_getElem? (i := 1792) (by decide +kernel), List.mem_of_getElem? (i := 1793) (by decide +kernel)⟩
theorem lw_p120 : lw_okq (⟨"StoneCensusModel", "isOtherSeats", "()Z"⟩, 73) := ⟨⟨by decide +kernel, by decide +kernel⟩, List.mem_of_getElem? (i := 1222) (by decide +kernel), List.mem_of_getElem? (i := 1796) (by decide +kernel), List.mem_of_getElem? (i := 1797) (by decide +kernel)⟩
theorem lw_p121 : lw_okq (⟨"StoneCensusModel", "layRoad", "()V"⟩, 73) := ⟨⟨by decide +kernel, by decide +kernel⟩, List.mem_of_getElem? (i := 1222) (by decide +kernel), List.mem_of_getElem? (i := 1813) (by decide +kernel), List.mem_of_getElem? (i := 1814) (by decide +kernel)⟩
theorem lw_p122 : lw_okq (⟨"StoneCensusModel", "moved", "(I)I"⟩, 73) := ⟨⟨by decide +kernel, by decide +kernel⟩, List.mem_of_getElem? (i := 1222) (by decide +kernel), List.mem_of_getElem? (i := 1817) (by decide +kernel), List.mem_of_getElem? (i := 1818) (by decide +kernel)⟩
theorem lw_p123 : lw_okq (⟨"StoneCensusModel", "layTruths", "(I)V"⟩, 73) := ⟨⟨by decide +kernel, by decide +kernel⟩, List.mem_of_getElem? (i := 1222) (by decide +kernel), List.mem_of_getElem? (i := 1846) (by decide +kernel), List.mem_of_getElem? (i := 1847) (by decide +kernel)⟩
theorem lw_p124 : lw_okq (⟨"StoneCensusModel", "liarsOf", "(III)I"⟩, 73) := ⟨⟨by decide +kernel, by decide +kernel⟩, List.mem_of_getElem? (i := 1222) (by decide +kernel), List.mem_of_getElem? (i := 1850) (by decide +kernel), List.mem_of_getElem? (i := 1851) (by decide +kernel)⟩
theorem lw_p125 : lw_okq (⟨"StoneCensusModel", "headOf", "(II)I"⟩, 73) := ⟨⟨by decide +kernel, by decide +kernel⟩, List.mem_of_getElem? (i := 1222) (by decide +kernel), List.mem_of_getElem? (i := 1854) (by decide +kernel), List.mem_of_getElem? (i := 1855) (by decide +kernel)⟩
theorem lw_p126 : lw_okq (⟨"StoneCensusModel", "mostOf", "(I)I"⟩, 73) := ⟨⟨by decide +kernel, by decide +kernel⟩, List.mem_of_getElem? (i := 1222) (by decide +kernel), List.mem_of_getElem? (i := 1870) (by decide +kernel), List.mem_of_getElem? (i := 1871) (by decide +kernel)⟩
theorem lw_p127 : lw_okq (⟨"StoneCensusModel", "tellsAll", "(II)Z"⟩, 73) := ⟨⟨by decide +kernel, by decide +kernel⟩, List.mem_of_getElem? (i := 1222) (by decide +kernel), List.mem_of_getElem? (i := 1881) (by decide +kernel), List.mem_of_getElem? (i := 1882) (by decide +kernel)⟩
def lw_privs_8 : List (MethodName × Nat) := [(⟨"StoneCensusModel", "rowsOf", "()I"⟩, 73), (⟨"StoneCensusModel", "taxOfRow", "(I)I"⟩, 73), (⟨"StoneCensusModel", "countersRows", "()I"⟩, 73), (⟨"StoneCensusModel", "layCounters", "(I)I"⟩, 73), (⟨"StoneCensusModel", "doneAt", "()I"⟩, 73), (⟨"StoneCensusModel", "without", "(II)I"⟩, 73), (⟨"StoneCensusModel", "laySeats", "(II)V"⟩, 73), (⟨"StoneCensusModel", "keepSeats", "()V"⟩, 73), (⟨"StoneCensusModel", "isOtherSeats", "()Z"⟩, 73), (⟨"StoneCensusModel", "layRoad", "()V"⟩, 73), (⟨"StoneCensusModel", "moved", "(I)I"⟩, 73), (⟨"StoneCensusModel", "layTruths", "(I)V"⟩, 73), (⟨"StoneCensusModel", "liarsOf", "(III)I"⟩, 73), (⟨"StoneCensusModel", "headOf", "(II)I"⟩, 73), (⟨"StoneCensusModel", "mostOf", "(I)I"⟩, 73), (⟨"StoneCensusModel", "tellsAll", "(II)Z"⟩, 73)]
theorem lw_r8 : ∀ q ∈ lw_privs_8, lw_okq q := List.forall_mem_cons.mpr ⟨lw_p112, List.forall_mem_cons.mpr ⟨lw_p113, List.forall_mem_cons.mpr ⟨lw_p114, List.forall_mem_cons.mpr ⟨lw_p115, List.forall_mem_cons.mpr ⟨lw_p116, List.forall_mem_cons.mpr ⟨lw_p117, List.forall_mem_cons.mpr ⟨lw_p118, List.forall_mem_cons.mpr ⟨lw_p119, List.forall_mem_cons.mpr ⟨lw_p120, List.forall_mem_cons.mpr ⟨lw_p121, List.forall_mem_cons.mpr ⟨lw_p122, List.forall_mem_cons.mpr ⟨lw_p123, List.forall_mem_cons.mpr ⟨lw_p124, List.forall_mem_cons.mpr ⟨lw_p125, List.forall_mem_cons.mpr ⟨lw_p126, List.forall_mem_cons.mpr ⟨lw_p127, fun _ h => absurd h List.not_mem_nil⟩⟩⟩⟩⟩⟩⟩⟩⟩⟩⟩⟩⟩⟩⟩⟩
def lw_privs : List (MethodName × Nat) := lw_privs_1 ++ (lw_privs_2 ++ (lw_privs_3 ++ (lw_privs_4 ++ (lw_privs_5 ++ (lw_privs_6 ++ (lw_privs_7 ++ (lw_privs_8)))))))
def lw_tbl : List Cond := k2_sels lw_privs ++ tables_1
theorem lw_privs_ok : ∀ q ∈ lw_privs, lw_okq q := by
  show ∀ q ∈ lw_privs_1 ++ (lw_privs_2 ++ (lw_privs_3 ++ (lw_privs_4 ++ (lw_privs_5 ++ (lw_privs_6 ++ (lw_privs_7 ++ (lw_privs_8))))))), lw_okq q
  exact List.forall_mem_append.mpr ⟨lw_r1, List.forall_mem_append.mpr ⟨lw_r2, List.forall_mem_append.mpr ⟨lw_r3, List.forall_mem_append.mpr ⟨lw_r4, List.forall_mem_append.mpr ⟨lw_r5, List.forall_mem_append.mpr ⟨lw_r6, List.forall_mem_append.mpr ⟨lw_r7, lw_r8⟩⟩⟩⟩⟩⟩⟩
end
section
def RX0 : String := "StoneCensus$Formula"
def TX0 : u_T := fun k => match k with
  | 0 => ("StoneCensus$Formula", "code", "[I", true)
  | 1 => ("StoneCensus$Formula", "stack", "[I", true)
  | 2 => ("StoneCensus$Formula", "length", "I", false)
  | 3 => ("StoneCensus$Formula", "units", "I", false)
  | _ => ("StoneCensus$Formula", "told", "Z", false)
def tyX0 : Nat → FieldType := fun k => match k with
  | 0 => .array .int
  | 1 => .array .int
  | 2 => .int
  | 3 => .int
  | _ => .boolean
theorem nmX0 : ∀ a, a < 5 → ∀ b, b < 5 → a ≠ b → (TX0 a).2.1 ≠ (TX0 b).2.1 := by decide +kernel
theorem tyX0_ok : ∀ k, k < 5 → parseFieldDescriptor (TX0 k).2.2.1 = some (tyX0 k) := by decide +kernel
abbrev cX0_init : ByteArray := prog_2_method_1_code
def yX0_init : MethodName := ⟨RX0, "<init>", "()V"⟩
abbrev cX0_clear : ByteArray := prog_2_method_2_code
def yX0_clear : MethodName := ⟨RX0, "clear", "()V"⟩
abbrev cX0_add : ByteArray := prog_2_method_3_code
def yX0_add : MethodName := ⟨RX0, "add", "(I)V"⟩
abbrev cX0_work : ByteArray := prog_2_method_4_code
def yX0_work : MethodName := ⟨RX0, "work", "([I)I"⟩
abbrev cX0_leaf : ByteArray := prog_2_method_5_code
def yX0_leaf : MethodName := ⟨RX0, "leaf", "(I[I)I"⟩
abbrev cX0_join : ByteArray := prog_2_method_6_code
def yX0_join : MethodName := ⟨RX0, "join", "(III)I"⟩
def RX1 : String := "StoneCensus$Hiding"
def TX1 : u_T := fun k => match k with
  | 0 => ("StoneCensus$Hiding", "taxes", "[[I", true)
  | 1 => ("StoneCensus$Hiding", "cheapest", "[[I", true)
  | 2 => ("StoneCensus$Hiding", "chosen", "[I", true)
  | _ => ("StoneCensus$Hiding", "count", "I", false)
def tyX1 : Nat → FieldType := fun k => match k with
  | 0 => .array (.array .int)
  | 1 => .array (.array .int)
  | 2 => .array .int
  | _ => .int
theorem nmX1 : ∀ a, a < 4 → ∀ b, b < 4 → a ≠ b → (TX1 a).2.1 ≠ (TX1 b).2.1 := by decide +kernel
theorem tyX1_ok : ∀ k, k < 4 → parseFieldDescriptor (TX1 k).2.2.1 = some (tyX1 k) := by decide +kernel
abbrev cX1_init : ByteArray := prog_3_method_1_code
def yX1_init : MethodName := ⟨RX1, "<init>", "()V"⟩
abbrev cX1_look : ByteArray := prog_3_method_2_code
def yX1_look : MethodName := ⟨RX1, "look", "(LStoneCensus$Sheet;[I)V"⟩
abbrev cX1_taxHiding : ByteArray := prog_3_method_3_code
def yX1_taxHiding : MethodName := ⟨RX1, "taxHiding", "(LStoneCensus$Sheet;[III)I"⟩
abbrev cX1_leastTax : ByteArray := prog_3_method_4_code
def yX1_leastTax : MethodName := ⟨RX1, "leastTax", "()I"⟩
abbrev cX1_choose : ByteArray := prog_3_method_5_code
def yX1_choose : MethodName := ⟨RX1, "choose", "(I)I"⟩
abbrev cX1_weighFromTheEnd : ByteArray := prog_3_method_6_code
def yX1_weighFromTheEnd : MethodName := ⟨RX1, "weighFromTheEnd", "()V"⟩
abbrev cX1_cheapestFrom : ByteArray := prog_3_method_7_code
def yX1_cheapestFrom : MethodName := ⟨RX1, "cheapestFrom", "(II)I"⟩
abbrev cX1_pickFirst : ByteArray := prog_3_method_8_code
def yX1_pickFirst : MethodName := ⟨RX1, "pickFirst", "(II)V"⟩
abbrev cX1_firstThatFits : ByteArray := prog_3_method_9_code
def yX1_firstThatFits : MethodName := ⟨RX1, "firstThatFits", "(III)I"⟩
def RX2 : String := "StoneCensus$History"
def TX2 : u_T := fun k => match k with
  | 0 => ("StoneCensus$History", "rows", "[[I", true)
  | 1 => ("StoneCensus$History", "boxes", "[[I", true)
  | 2 => ("StoneCensus$History", "filled", "[Z", true)
  | 3 => ("StoneCensus$History", "oldest", "I", false)
  | 4 => ("StoneCensus$History", "behind", "I", false)
  | _ => ("StoneCensus$History", "ahead", "I", false)
def tyX2 : Nat → FieldType := fun k => match k with
  | 0 => .array (.array .int)
  | 1 => .array (.array .int)
  | 2 => .array .boolean
  | 3 => .int
  | 4 => .int
  | _ => .int
theorem nmX2 : ∀ a, a < 6 → ∀ b, b < 6 → a ≠ b → (TX2 a).2.1 ≠ (TX2 b).2.1 := by decide +kernel
theorem tyX2_ok : ∀ k, k < 6 → parseFieldDescriptor (TX2 k).2.2.1 = some (tyX2 k) := by decide +kernel
abbrev cX2_init : ByteArray := prog_4_method_1_code
def yX2_init : MethodName := ⟨RX2, "<init>", "()V"⟩
abbrev cX2_startFrom : ByteArray := prog_4_method_2_code
def yX2_startFrom : MethodName := ⟨RX2, "startFrom", "([I)V"⟩
abbrev cX2_keep : ByteArray := prog_4_method_3_code
def yX2_keep : MethodName := ⟨RX2, "keep", "([I)V"⟩
abbrev cX2_stepBack : ByteArray := prog_4_method_4_code
def yX2_stepBack : MethodName := ⟨RX2, "stepBack", "([I)Z"⟩
abbrev cX2_stepOn : ByteArray := prog_4_method_5_code
def yX2_stepOn : MethodName := ⟨RX2, "stepOn", "([I)Z"⟩
abbrev cX2_emptyBoxes : ByteArray := prog_4_method_6_code
def yX2_emptyBoxes : MethodName := ⟨RX2, "emptyBoxes", "()V"⟩
abbrev cX2_fillBox : ByteArray := prog_4_method_7_code
def yX2_fillBox : MethodName := ⟨RX2, "fillBox", "(I[I)V"⟩
abbrev cX2_openBox : ByteArray := prog_4_method_8_code
def yX2_openBox : MethodName := ⟨RX2, "openBox", "(I[I)V"⟩
abbrev cX2_copyFrom : ByteArray := prog_4_method_9_code
def yX2_copyFrom : MethodName := ⟨RX2, "copyFrom", "([I)V"⟩
abbrev cX2_copyTo : ByteArray := prog_4_method_10_code
def yX2_copyTo : MethodName := ⟨RX2, "copyTo", "([I)V"⟩
def RX3 : String := "StoneCensus$Liars"
def TX3 : u_T := fun k => match k with
  | 0 => ("StoneCensus$Liars", "against", "[[I", true)
  | 1 => ("StoneCensus$Liars", "sums", "LStoneCensus$Sums;", true)
  | 2 => ("StoneCensus$Liars", "owed", "[I", true)
  | 3 => ("StoneCensus$Liars", "tried", "[I", true)
  | 4 => ("StoneCensus$Liars", "row", "[I", true)
  | 5 => ("StoneCensus$Liars", "fewest", "I", false)
  | 6 => ("StoneCensus$Liars", "houses", "I", false)
  | 7 => ("StoneCensus$Liars", "mask", "I", false)
  | _ => ("StoneCensus$Liars", "ready", "Z", false)
def tyX3 : Nat → FieldType := fun k => match k with
  | 0 => .array (.array .int)
  | 1 => .object "StoneCensus$Sums"
  | 2 => .array .int
  | 3 => .array .int
  | 4 => .array .int
  | 5 => .int
  | 6 => .int
  | 7 => .int
  | _ => .boolean
theorem nmX3 : ∀ a, a < 9 → ∀ b, b < 9 → a ≠ b → (TX3 a).2.1 ≠ (TX3 b).2.1 := by decide +kernel
theorem tyX3_ok : ∀ k, k < 9 → parseFieldDescriptor (TX3 k).2.2.1 = some (tyX3 k) := by decide +kernel
abbrev cX3_init : ByteArray := prog_5_method_1_code
def yX3_init : MethodName := ⟨RX3, "<init>", "()V"⟩
abbrev cX3_forget : ByteArray := prog_5_method_2_code
def yX3_forget : MethodName := ⟨RX3, "forget", "()V"⟩
abbrev cX3_learn : ByteArray := prog_5_method_3_code
def yX3_learn : MethodName := ⟨RX3, "learn", "(LStoneCensus$Reports;II)V"⟩
abbrev cX3_takeReports : ByteArray := prog_5_method_4_code
def yX3_takeReports : MethodName := ⟨RX3, "takeReports", "(LStoneCensus$Reports;)I"⟩
abbrev cX3_countOwed : ByteArray := prog_5_method_5_code
def yX3_countOwed : MethodName := ⟨RX3, "countOwed", "()V"⟩
abbrev cX3_leastAgainst : ByteArray := prog_5_method_6_code
def yX3_leastAgainst : MethodName := ⟨RX3, "leastAgainst", "(I)I"⟩
abbrev cX3_searchFrom : ByteArray := prog_5_method_7_code
def yX3_searchFrom : MethodName := ⟨RX3, "searchFrom", "(II)V"⟩
abbrev cX3_againstWith : ByteArray := prog_5_method_8_code
def yX3_againstWith : MethodName := ⟨RX3, "againstWith", "(II)I"⟩
def RX4 : String := "StoneCensus$Reader"
def TX4 : u_T := fun k => match k with
  | 0 => ("StoneCensus$Reader", "bytes", "[B", true)
  | 1 => ("StoneCensus$Reader", "length", "I", false)
  | 2 => ("StoneCensus$Reader", "fault", "I", false)
  | 3 => ("StoneCensus$Reader", "faultPlace", "I", false)
  | 4 => ("StoneCensus$Reader", "kind", "I", false)
  | 5 => ("StoneCensus$Reader", "start", "I", false)
  | 6 => ("StoneCensus$Reader", "at", "I", false)
  | 7 => ("StoneCensus$Reader", "number", "I", false)
  | 8 => ("StoneCensus$Reader", "name", "J", false)
  | _ => ("StoneCensus$Reader", "sign", "C", false)
def tyX4 : Nat → FieldType := fun k => match k with
  | 0 => .array .byte
  | 1 => .int
  | 2 => .int
  | 3 => .int
  | 4 => .int
  | 5 => .int
  | 6 => .int
  | 7 => .int
  | 8 => .long
  | _ => .char
theorem nmX4 : ∀ a, a < 10 → ∀ b, b < 10 → a ≠ b → (TX4 a).2.1 ≠ (TX4 b).2.1 := by decide +kernel
theorem tyX4_ok : ∀ k, k < 10 → parseFieldDescriptor (TX4 k).2.2.1 = some (tyX4 k) := by decide +kernel
abbrev cX4_init : ByteArray := prog_6_method_1_code
def yX4_init : MethodName := ⟨RX4, "<init>", "()V"⟩
abbrev cX4_append : ByteArray := prog_6_method_2_code
def yX4_append : MethodName := ⟨RX4, "append", "(I)V"⟩
abbrev cX4_readAll : ByteArray := prog_6_method_3_code
def yX4_readAll : MethodName := ⟨RX4, "readAll", "(LStoneCensus$Sheet;)Z"⟩
abbrev cX4_readLine : ByteArray := prog_6_method_4_code
def yX4_readLine : MethodName := ⟨RX4, "readLine", "(LStoneCensus$Sheet;)V"⟩
abbrev cX4_readHouse : ByteArray := prog_6_method_5_code
def yX4_readHouse : MethodName := ⟨RX4, "readHouse", "(LStoneCensus$Sheet;)V"⟩
abbrev cX4_readDraw : ByteArray := prog_6_method_6_code
def yX4_readDraw : MethodName := ⟨RX4, "readDraw", "(LStoneCensus$Sheet;)V"⟩
abbrev cX4_readLaw : ByteArray := prog_6_method_7_code
def yX4_readLaw : MethodName := ⟨RX4, "readLaw", "(LStoneCensus$Formula;)V"⟩
abbrev cX4_readEither : ByteArray := prog_6_method_8_code
def yX4_readEither : MethodName := ⟨RX4, "readEither", "(LStoneCensus$Formula;I)V"⟩
abbrev cX4_readBoth : ByteArray := prog_6_method_9_code
def yX4_readBoth : MethodName := ⟨RX4, "readBoth", "(LStoneCensus$Formula;I)V"⟩
abbrev cX4_readOne : ByteArray := prog_6_method_10_code
def yX4_readOne : MethodName := ⟨RX4, "readOne", "(LStoneCensus$Formula;I)V"⟩
abbrev cX4_readSum : ByteArray := prog_6_method_11_code
def yX4_readSum : MethodName := ⟨RX4, "readSum", "(LStoneCensus$Formula;I)V"⟩
abbrev cX4_readTerm : ByteArray := prog_6_method_12_code
def yX4_readTerm : MethodName := ⟨RX4, "readTerm", "(LStoneCensus$Formula;I)V"⟩
abbrev cX4_readUnit : ByteArray := prog_6_method_13_code
def yX4_readUnit : MethodName := ⟨RX4, "readUnit", "(LStoneCensus$Formula;I)V"⟩
abbrev cX4_valueNamed : ByteArray := prog_6_method_14_code
def yX4_valueNamed : MethodName := ⟨RX4, "valueNamed", "()I"⟩
abbrev cX4_standsForItself : ByteArray := prog_6_method_15_code
def yX4_standsForItself : MethodName := ⟨RX4, "standsForItself", "()Z"⟩
abbrev cX4_takeName : ByteArray := prog_6_method_16_code
def yX4_takeName : MethodName := ⟨RX4, "takeName", "(LStoneCensus$Sheet;)J"⟩
abbrev cX4_takeTold : ByteArray := prog_6_method_17_code
def yX4_takeTold : MethodName := ⟨RX4, "takeTold", "(Ljava/lang/String;I)I"⟩
abbrev cX4_takeSign : ByteArray := prog_6_method_18_code
def yX4_takeSign : MethodName := ⟨RX4, "takeSign", "(C)V"⟩
abbrev cX4_isSign : ByteArray := prog_6_method_19_code
def yX4_isSign : MethodName := ⟨RX4, "isSign", "(C)Z"⟩
abbrev cX4_isWord : ByteArray := prog_6_method_20_code
def yX4_isWord : MethodName := ⟨RX4, "isWord", "(Ljava/lang/String;)Z"⟩
abbrev cX4_refuse : ByteArray := prog_6_method_21_code
def yX4_refuse : MethodName := ⟨RX4, "refuse", "(I)V"⟩
abbrev cX4_advance : ByteArray := prog_6_method_22_code
def yX4_advance : MethodName := ⟨RX4, "advance", "()V"⟩
abbrev cX4_scanWord : ByteArray := prog_6_method_23_code
def yX4_scanWord : MethodName := ⟨RX4, "scanWord", "()V"⟩
abbrev cX4_scanNumber : ByteArray := prog_6_method_24_code
def yX4_scanNumber : MethodName := ⟨RX4, "scanNumber", "()V"⟩
abbrev cX4_scanSign : ByteArray := prog_6_method_25_code
def yX4_scanSign : MethodName := ⟨RX4, "scanSign", "()V"⟩
abbrev cX4_isLetterAt : ByteArray := prog_6_method_26_code
def yX4_isLetterAt : MethodName := ⟨RX4, "isLetterAt", "(I)Z"⟩
abbrev cX4_isDigitAt : ByteArray := prog_6_method_27_code
def yX4_isDigitAt : MethodName := ⟨RX4, "isDigitAt", "(I)Z"⟩
def RX5 : String := "StoneCensus$Reports"
def TX5 : u_T := fun k => match k with
  | 0 => ("StoneCensus$Reports", "sets", "[I", true)
  | 1 => ("StoneCensus$Reports", "leasts", "[I", true)
  | 2 => ("StoneCensus$Reports", "mosts", "[I", true)
  | 3 => ("StoneCensus$Reports", "toldAt", "[I", true)
  | 4 => ("StoneCensus$Reports", "untoldAt", "[I", true)
  | _ => ("StoneCensus$Reports", "count", "I", false)
def tyX5 : Nat → FieldType := fun k => match k with
  | 0 => .array .int
  | 1 => .array .int
  | 2 => .array .int
  | 3 => .array .int
  | 4 => .array .int
  | _ => .int
theorem nmX5 : ∀ a, a < 6 → ∀ b, b < 6 → a ≠ b → (TX5 a).2.1 ≠ (TX5 b).2.1 := by decide +kernel
theorem tyX5_ok : ∀ k, k < 6 → parseFieldDescriptor (TX5 k).2.2.1 = some (tyX5 k) := by decide +kernel
abbrev cX5_init : ByteArray := prog_7_method_1_code
def yX5_init : MethodName := ⟨RX5, "<init>", "()V"⟩
abbrev cX5_add : ByteArray := prog_7_method_2_code
def yX5_add : MethodName := ⟨RX5, "add", "(IIII)I"⟩
abbrev cX5_takeBack : ByteArray := prog_7_method_3_code
def yX5_takeBack : MethodName := ⟨RX5, "takeBack", "(II)Z"⟩
abbrev cX5_countingAt : ByteArray := prog_7_method_4_code
def yX5_countingAt : MethodName := ⟨RX5, "countingAt", "(I)I"⟩
def RX6 : String := "StoneCensus$Road"
def TX6 : u_T := fun k => match k with
  | 0 => ("StoneCensus$Road", "places", "[I", true)
  | 1 => ("StoneCensus$Road", "bowls", "[I", true)
  | 2 => ("StoneCensus$Road", "who", "[I", true)
  | 3 => ("StoneCensus$Road", "furthest", "[I", true)
  | 4 => ("StoneCensus$Road", "counted", "[I", true)
  | 5 => ("StoneCensus$Road", "beside", "[I", true)
  | 6 => ("StoneCensus$Road", "steps", "[I", true)
  | 7 => ("StoneCensus$Road", "knocks", "[I", true)
  | _ => ("StoneCensus$Road", "count", "I", false)
def tyX6 : Nat → FieldType := fun k => match k with
  | 0 => .array .int
  | 1 => .array .int
  | 2 => .array .int
  | 3 => .array .int
  | 4 => .array .int
  | 5 => .array .int
  | 6 => .array .int
  | 7 => .array .int
  | _ => .int
theorem nmX6 : ∀ a, a < 9 → ∀ b, b < 9 → a ≠ b → (TX6 a).2.1 ≠ (TX6 b).2.1 := by decide +kernel
theorem tyX6_ok : ∀ k, k < 9 → parseFieldDescriptor (TX6 k).2.2.1 = some (tyX6 k) := by decide +kernel
abbrev cX6_init : ByteArray := prog_8_method_1_code
def yX6_init : MethodName := ⟨RX6, "<init>", "()V"⟩
abbrev cX6_look : ByteArray := prog_8_method_2_code
def yX6_look : MethodName := ⟨RX6, "look", "(LStoneCensus$Sheet;[I)V"⟩
abbrev cX6_fewestBy : ByteArray := prog_8_method_3_code
def yX6_fewestBy : MethodName := ⟨RX6, "fewestBy", "(I)I"⟩
abbrev cX6_firstNoon : ByteArray := prog_8_method_4_code
def yX6_firstNoon : MethodName := ⟨RX6, "firstNoon", "(I)I"⟩
abbrev cX6_sendFrom : ByteArray := prog_8_method_5_code
def yX6_sendFrom : MethodName := ⟨RX6, "sendFrom", "(IIII)Z"⟩
abbrev cX6_soonestFrom : ByteArray := prog_8_method_6_code
def yX6_soonestFrom : MethodName := ⟨RX6, "soonestFrom", "(IIII)I"⟩
abbrev cX6_busyWith : ByteArray := prog_8_method_7_code
def yX6_busyWith : MethodName := ⟨RX6, "busyWith", "(II)I"⟩
abbrev cX6_putBack : ByteArray := prog_8_method_8_code
def yX6_putBack : MethodName := ⟨RX6, "putBack", "(III)V"⟩
abbrev cX6_planKnocks : ByteArray := prog_8_method_9_code
def yX6_planKnocks : MethodName := ⟨RX6, "planKnocks", "()I"⟩
abbrev cX6_findNeighbours : ByteArray := prog_8_method_10_code
def yX6_findNeighbours : MethodName := ⟨RX6, "findNeighbours", "()V"⟩
abbrev cX6_isBefore : ByteArray := prog_8_method_11_code
def yX6_isBefore : MethodName := ⟨RX6, "isBefore", "(II)Z"⟩
abbrev cX6_bitOf : ByteArray := prog_8_method_12_code
def yX6_bitOf : MethodName := ⟨RX6, "bitOf", "(I)I"⟩
abbrev cX6_countSteps : ByteArray := prog_8_method_13_code
def yX6_countSteps : MethodName := ⟨RX6, "countSteps", "()V"⟩
abbrev cX6_fewestFrom : ByteArray := prog_8_method_14_code
def yX6_fewestFrom : MethodName := ⟨RX6, "fewestFrom", "(I)I"⟩
abbrev cX6_firstOnTheWay : ByteArray := prog_8_method_15_code
def yX6_firstOnTheWay : MethodName := ⟨RX6, "firstOnTheWay", "(I)I"⟩
abbrev cX6_afterKnock : ByteArray := prog_8_method_16_code
def yX6_afterKnock : MethodName := ⟨RX6, "afterKnock", "(II)I"⟩
def RX7 : String := "StoneCensus$Seating"
def TX7 : u_T := fun k => match k with
  | 0 => ("StoneCensus$Seating", "stones", "[I", true)
  | 1 => ("StoneCensus$Seating", "given", "[I", true)
  | 2 => ("StoneCensus$Seating", "rests", "[I", true)
  | 3 => ("StoneCensus$Seating", "other", "[I", true)
  | _ => ("StoneCensus$Seating", "count", "I", false)
def tyX7 : Nat → FieldType := fun k => match k with
  | 0 => .array .int
  | 1 => .array .int
  | 2 => .array .int
  | 3 => .array .int
  | _ => .int
theorem nmX7 : ∀ a, a < 5 → ∀ b, b < 5 → a ≠ b → (TX7 a).2.1 ≠ (TX7 b).2.1 := by decide +kernel
theorem tyX7_ok : ∀ k, k < 5 → parseFieldDescriptor (TX7 k).2.2.1 = some (tyX7 k) := by decide +kernel
abbrev cX7_init : ByteArray := prog_9_method_1_code
def yX7_init : MethodName := ⟨RX7, "<init>", "()V"⟩
abbrev cX7_look : ByteArray := prog_9_method_2_code
def yX7_look : MethodName := ⟨RX7, "look", "([II)V"⟩
abbrev cX7_share : ByteArray := prog_9_method_3_code
def yX7_share : MethodName := ⟨RX7, "share", "(II)V"⟩
abbrev cX7_changedByOne : ByteArray := prog_9_method_4_code
def yX7_changedByOne : MethodName := ⟨RX7, "changedByOne", "(II)I"⟩
abbrev cX7_firstLoser : ByteArray := prog_9_method_5_code
def yX7_firstLoser : MethodName := ⟨RX7, "firstLoser", "(I)I"⟩
abbrev cX7_isChanged : ByteArray := prog_9_method_6_code
def yX7_isChanged : MethodName := ⟨RX7, "isChanged", "()Z"⟩
abbrev cX7_shareByRests : ByteArray := prog_9_method_7_code
def yX7_shareByRests : MethodName := ⟨RX7, "shareByRests", "(II)V"⟩
abbrev cX7_greatestRest : ByteArray := prog_9_method_8_code
def yX7_greatestRest : MethodName := ⟨RX7, "greatestRest", "()I"⟩
abbrev cX7_shareOneByOne : ByteArray := prog_9_method_9_code
def yX7_shareOneByOne : MethodName := ⟨RX7, "shareOneByOne", "(I)V"⟩
def RX8 : String := "StoneCensus$Sheet"
def TX8 : u_T := fun k => match k with
  | 0 => ("StoneCensus$Sheet", "names", "[J", true)
  | 1 => ("StoneCensus$Sheet", "places", "[I", true)
  | 2 => ("StoneCensus$Sheet", "heads", "[I", true)
  | 3 => ("StoneCensus$Sheet", "jams", "[I", true)
  | 4 => ("StoneCensus$Sheet", "habits", "[I", true)
  | 5 => ("StoneCensus$Sheet", "spit", "LStoneCensus$Formula;", true)
  | 6 => ("StoneCensus$Sheet", "tax", "LStoneCensus$Formula;", true)
  | 7 => ("StoneCensus$Sheet", "grow", "LStoneCensus$Formula;", true)
  | 8 => ("StoneCensus$Sheet", "values", "[I", true)
  | 9 => ("StoneCensus$Sheet", "count", "I", false)
  | 10 => ("StoneCensus$Sheet", "draw", "I", false)
  | _ => ("StoneCensus$Sheet", "drawTold", "Z", false)
def tyX8 : Nat → FieldType := fun k => match k with
  | 0 => .array .long
  | 1 => .array .int
  | 2 => .array .int
  | 3 => .array .int
  | 4 => .array .int
  | 5 => .object "StoneCensus$Formula"
  | 6 => .object "StoneCensus$Formula"
  | 7 => .object "StoneCensus$Formula"
  | 8 => .array .int
  | 9 => .int
  | 10 => .int
  | _ => .boolean
theorem nmX8 : ∀ a, a < 12 → ∀ b, b < 12 → a ≠ b → (TX8 a).2.1 ≠ (TX8 b).2.1 := by decide +kernel
theorem tyX8_ok : ∀ k, k < 12 → parseFieldDescriptor (TX8 k).2.2.1 = some (tyX8 k) := by decide +kernel
abbrev cX8_init : ByteArray := prog_10_method_1_code
def yX8_init : MethodName := ⟨RX8, "<init>", "()V"⟩
abbrev cX8_clear : ByteArray := prog_10_method_2_code
def yX8_clear : MethodName := ⟨RX8, "clear", "()V"⟩
abbrev cX8_hasName : ByteArray := prog_10_method_3_code
def yX8_hasName : MethodName := ⟨RX8, "hasName", "(J)Z"⟩
abbrev cX8_addHouse : ByteArray := prog_10_method_4_code
def yX8_addHouse : MethodName := ⟨RX8, "addHouse", "(JIIII)V"⟩
abbrev cX8_unitsOfLaws : ByteArray := prog_10_method_5_code
def yX8_unitsOfLaws : MethodName := ⟨RX8, "unitsOfLaws", "()I"⟩
abbrev cX8_begin : ByteArray := prog_10_method_6_code
def yX8_begin : MethodName := ⟨RX8, "begin", "([I)V"⟩
abbrev cX8_stonesOf : ByteArray := prog_10_method_7_code
def yX8_stonesOf : MethodName := ⟨RX8, "stonesOf", "([II)I"⟩
abbrev cX8_stonesHiding : ByteArray := prog_10_method_8_code
def yX8_stonesHiding : MethodName := ⟨RX8, "stonesHiding", "([III)I"⟩
abbrev cX8_taxOf : ByteArray := prog_10_method_9_code
def yX8_taxOf : MethodName := ⟨RX8, "taxOf", "(III)I"⟩
abbrev cX8_passSummer : ByteArray := prog_10_method_10_code
def yX8_passSummer : MethodName := ⟨RX8, "passSummer", "([I)V"⟩
abbrev cX8_sendMagpie : ByteArray := prog_10_method_11_code
def yX8_sendMagpie : MethodName := ⟨RX8, "sendMagpie", "([I)V"⟩
abbrev cX8_growHouse : ByteArray := prog_10_method_12_code
def yX8_growHouse : MethodName := ⟨RX8, "growHouse", "([II)V"⟩
abbrev cX8_setValues : ByteArray := prog_10_method_13_code
def yX8_setValues : MethodName := ⟨RX8, "setValues", "(IIIIII)V"⟩
def RX9 : String := "StoneCensus$Sums"
def TX9 : u_T := fun k => match k with
  | 0 => ("StoneCensus$Sums", "heads", "[I", true)
  | 1 => ("StoneCensus$Sums", "rests", "[[I", true)
  | _ => ("StoneCensus$Sums", "restCounts", "[I", true)
def tyX9 : Nat → FieldType := fun k => match k with
  | 0 => .array .int
  | 1 => .array (.array .int)
  | _ => .array .int
theorem nmX9 : ∀ a, a < 3 → ∀ b, b < 3 → a ≠ b → (TX9 a).2.1 ≠ (TX9 b).2.1 := by decide +kernel
theorem tyX9_ok : ∀ k, k < 3 → parseFieldDescriptor (TX9 k).2.2.1 = some (tyX9 k) := by decide +kernel
abbrev cX9_init : ByteArray := prog_11_method_1_code
def yX9_init : MethodName := ⟨RX9, "<init>", "()V"⟩
abbrev cX9_list : ByteArray := prog_11_method_2_code
def yX9_list : MethodName := ⟨RX9, "list", "(II)I"⟩
abbrev cX9_setHeads : ByteArray := prog_11_method_3_code
def yX9_setHeads : MethodName := ⟨RX9, "setHeads", "(II)V"⟩
def RX10 : String := "StoneCensus$Truths"
def TX10 : u_T := fun k => match k with
  | 0 => ("StoneCensus$Truths", "tally", "[[I", true)
  | 1 => ("StoneCensus$Truths", "lows", "[I", true)
  | 2 => ("StoneCensus$Truths", "highs", "[I", true)
  | 3 => ("StoneCensus$Truths", "sums", "LStoneCensus$Sums;", true)
  | 4 => ("StoneCensus$Truths", "codes", "[I", true)
  | 5 => ("StoneCensus$Truths", "stamps", "[I", true)
  | 6 => ("StoneCensus$Truths", "codeCount", "I", false)
  | 7 => ("StoneCensus$Truths", "stamp", "I", false)
  | 8 => ("StoneCensus$Truths", "total", "I", false)
  | 9 => ("StoneCensus$Truths", "houses", "I", false)
  | 10 => ("StoneCensus$Truths", "mask", "I", false)
  | 11 => ("StoneCensus$Truths", "telling", "I", false)
  | 12 => ("StoneCensus$Truths", "firstFree", "I", false)
  | 13 => ("StoneCensus$Truths", "ways", "I", false)
  | _ => ("StoneCensus$Truths", "ready", "Z", false)
def tyX10 : Nat → FieldType := fun k => match k with
  | 0 => .array (.array .int)
  | 1 => .array .int
  | 2 => .array .int
  | 3 => .object "StoneCensus$Sums"
  | 4 => .array .int
  | 5 => .array .int
  | 6 => .int
  | 7 => .int
  | 8 => .int
  | 9 => .int
  | 10 => .int
  | 11 => .int
  | 12 => .int
  | 13 => .int
  | _ => .boolean
theorem nmX10 : ∀ a, a < 15 → ∀ b, b < 15 → a ≠ b → (TX10 a).2.1 ≠ (TX10 b).2.1 := by decide +kernel
theorem tyX10_ok : ∀ k, k < 15 → parseFieldDescriptor (TX10 k).2.2.1 = some (tyX10 k) := by decide +kernel
abbrev cX10_init : ByteArray := prog_12_method_1_code
def yX10_init : MethodName := ⟨RX10, "<init>", "()V"⟩
abbrev cX10_forget : ByteArray := prog_12_method_2_code
def yX10_forget : MethodName := ⟨RX10, "forget", "()V"⟩
abbrev cX10_learn : ByteArray := prog_12_method_3_code
def yX10_learn : MethodName := ⟨RX10, "learn", "(LStoneCensus$Reports;II)V"⟩
abbrev cX10_takeReports : ByteArray := prog_12_method_4_code
def yX10_takeReports : MethodName := ⟨RX10, "takeReports", "(LStoneCensus$Reports;)I"⟩
abbrev cX10_countFrom : ByteArray := prog_12_method_5_code
def yX10_countFrom : MethodName := ⟨RX10, "countFrom", "(I)I"⟩
abbrev cX10_lowest : ByteArray := prog_12_method_6_code
def yX10_lowest : MethodName := ⟨RX10, "lowest", "(I)I"⟩
abbrev cX10_highest : ByteArray := prog_12_method_7_code
def yX10_highest : MethodName := ⟨RX10, "highest", "(I)I"⟩
abbrev cX10_fewestIn : ByteArray := prog_12_method_8_code
def yX10_fewestIn : MethodName := ⟨RX10, "fewestIn", "(I)I"⟩
abbrev cX10_mostIn : ByteArray := prog_12_method_9_code
def yX10_mostIn : MethodName := ⟨RX10, "mostIn", "(I)I"⟩
abbrev cX10_leftBySeeing : ByteArray := prog_12_method_10_code
def yX10_leftBySeeing : MethodName := ⟨RX10, "leftBySeeing", "(I)I"⟩
abbrev cX10_bestToSee : ByteArray := prog_12_method_11_code
def yX10_bestToSee : MethodName := ⟨RX10, "bestToSee", "()I"⟩
abbrev cX10_tellingSet : ByteArray := prog_12_method_12_code
def yX10_tellingSet : MethodName := ⟨RX10, "tellingSet", "()I"⟩
abbrev cX10_findTelling : ByteArray := prog_12_method_13_code
def yX10_findTelling : MethodName := ⟨RX10, "findTelling", "()I"⟩
abbrev cX10_gatherFrom : ByteArray := prog_12_method_14_code
def yX10_gatherFrom : MethodName := ⟨RX10, "gatherFrom", "(II)V"⟩
abbrev cX10_tellsApart : ByteArray := prog_12_method_15_code
def yX10_tellsApart : MethodName := ⟨RX10, "tellsApart", "(I)Z"⟩
abbrev cX10_partOf : ByteArray := prog_12_method_16_code
def yX10_partOf : MethodName := ⟨RX10, "partOf", "(II)I"⟩
def RX11 : String := "StoneCensus"
def TX11 : u_T := fun k => match k with
  | 0 => ("StoneCensus", "reader", "LStoneCensus$Reader;", true)
  | 1 => ("StoneCensus", "sheet", "LStoneCensus$Sheet;", false)
  | 2 => ("StoneCensus", "spare", "LStoneCensus$Sheet;", false)
  | 3 => ("StoneCensus", "now", "[I", true)
  | 4 => ("StoneCensus", "trial", "[I", true)
  | 5 => ("StoneCensus", "history", "LStoneCensus$History;", true)
  | 6 => ("StoneCensus", "hiding", "LStoneCensus$Hiding;", true)
  | 7 => ("StoneCensus", "road", "LStoneCensus$Road;", true)
  | 8 => ("StoneCensus", "seating", "LStoneCensus$Seating;", true)
  | 9 => ("StoneCensus", "reports", "LStoneCensus$Reports;", true)
  | 10 => ("StoneCensus", "known", "LStoneCensus$Truths;", true)
  | 11 => ("StoneCensus", "accused", "LStoneCensus$Liars;", true)
  | 12 => ("StoneCensus", "lying", "[I", true)
  | 13 => ("StoneCensus", "lyingCount", "I", false)
  | _ => ("StoneCensus", "time", "I", false)
def tyX11 : Nat → FieldType := fun k => match k with
  | 0 => .object "StoneCensus$Reader"
  | 1 => .object "StoneCensus$Sheet"
  | 2 => .object "StoneCensus$Sheet"
  | 3 => .array .int
  | 4 => .array .int
  | 5 => .object "StoneCensus$History"
  | 6 => .object "StoneCensus$Hiding"
  | 7 => .object "StoneCensus$Road"
  | 8 => .object "StoneCensus$Seating"
  | 9 => .object "StoneCensus$Reports"
  | 10 => .object "StoneCensus$Truths"
  | 11 => .object "StoneCensus$Liars"
  | 12 => .array .int
  | 13 => .int
  | _ => .int
theorem nmX11 : ∀ a, a < 15 → ∀ b, b < 15 → a ≠ b → (TX11 a).2.1 ≠ (TX11 b).2.1 := by decide +kernel
theorem tyX11_ok : ∀ k, k < 15 → parseFieldDescriptor (TX11 k).2.2.1 = some (tyX11 k) := by decide +kernel
abbrev cX11_init : ByteArray := prog_1_method_1_code
def yX11_init : MethodName := ⟨RX11, "<init>", "()V"⟩
abbrev cX11_feed : ByteArray := prog_1_method_2_code
def yX11_feed : MethodName := ⟨RX11, "feed", "(IIIII)I"⟩
abbrev cX11_end : ByteArray := prog_1_method_3_code
def yX11_end : MethodName := ⟨RX11, "end", "(I)I"⟩
abbrev cX11_province : ByteArray := prog_1_method_4_code
def yX11_province : MethodName := ⟨RX11, "province", "()I"⟩
abbrev cX11_fault : ByteArray := prog_1_method_5_code
def yX11_fault : MethodName := ⟨RX11, "fault", "(I)I"⟩
abbrev cX11_house : ByteArray := prog_1_method_6_code
def yX11_house : MethodName := ⟨RX11, "house", "(II)I"⟩
abbrev cX11_sum : ByteArray := prog_1_method_7_code
def yX11_sum : MethodName := ⟨RX11, "sum", "(I)I"⟩
abbrev cX11_comes : ByteArray := prog_1_method_8_code
def yX11_comes : MethodName := ⟨RX11, "comes", "(I)I"⟩
abbrev cX11_goes : ByteArray := prog_1_method_9_code
def yX11_goes : MethodName := ⟨RX11, "goes", "(I)I"⟩
abbrev cX11_moves : ByteArray := prog_1_method_10_code
def yX11_moves : MethodName := ⟨RX11, "moves", "(II)I"⟩
abbrev cX11_hide : ByteArray := prog_1_method_11_code
def yX11_hide : MethodName := ⟨RX11, "hide", "(II)I"⟩
abbrev cX11_steal : ByteArray := prog_1_method_12_code
def yX11_steal : MethodName := ⟨RX11, "steal", "(II)I"⟩
abbrev cX11_summer : ByteArray := prog_1_method_13_code
def yX11_summer : MethodName := ⟨RX11, "summer", "()I"⟩
abbrev cX11_undo : ByteArray := prog_1_method_14_code
def yX11_undo : MethodName := ⟨RX11, "undo", "()Z"⟩
abbrev cX11_redo : ByteArray := prog_1_method_15_code
def yX11_redo : MethodName := ⟨RX11, "redo", "()Z"⟩
abbrev cX11_falses : ByteArray := prog_1_method_16_code
def yX11_falses : MethodName := ⟨RX11, "falses", "()I"⟩
abbrev cX11_will : ByteArray := prog_1_method_17_code
def yX11_will : MethodName := ⟨RX11, "will", "(II)I"⟩
abbrev cX11_bowls : ByteArray := prog_1_method_18_code
def yX11_bowls : MethodName := ⟨RX11, "bowls", "(I)I"⟩
abbrev cX11_leave : ByteArray := prog_1_method_19_code
def yX11_leave : MethodName := ⟨RX11, "leave", "(I)I"⟩
abbrev cX11_least : ByteArray := prog_1_method_20_code
def yX11_least : MethodName := ⟨RX11, "least", "()I"⟩
abbrev cX11_rounds : ByteArray := prog_1_method_21_code
def yX11_rounds : MethodName := ⟨RX11, "rounds", "(I)I"⟩
abbrev cX11_noon : ByteArray := prog_1_method_22_code
def yX11_noon : MethodName := ⟨RX11, "noon", "(I)I"⟩
abbrev cX11_missed : ByteArray := prog_1_method_23_code
def yX11_missed : MethodName := ⟨RX11, "missed", "(I)I"⟩
abbrev cX11_doubled : ByteArray := prog_1_method_24_code
def yX11_doubled : MethodName := ⟨RX11, "doubled", "(I)I"⟩
abbrev cX11_seats : ByteArray := prog_1_method_25_code
def yX11_seats : MethodName := ⟨RX11, "seats", "(III)I"⟩
abbrev cX11_stone : ByteArray := prog_1_method_26_code
def yX11_stone : MethodName := ⟨RX11, "stone", "(II)I"⟩
abbrev cX11_loss : ByteArray := prog_1_method_27_code
def yX11_loss : MethodName := ⟨RX11, "loss", "(I)I"⟩
abbrev cX11_draft : ByteArray := prog_1_method_28_code
def yX11_draft : MethodName := ⟨RX11, "draft", "(II)I"⟩
abbrev cX11_chase : ByteArray := prog_1_method_29_code
def yX11_chase : MethodName := ⟨RX11, "chase", "()I"⟩
abbrev cX11_marks : ByteArray := prog_1_method_30_code
def yX11_marks : MethodName := ⟨RX11, "marks", "(III)I"⟩
abbrev cX11_lies : ByteArray := prog_1_method_31_code
def yX11_lies : MethodName := ⟨RX11, "lies", "(I)I"⟩
abbrev cX11_report : ByteArray := prog_1_method_32_code
def yX11_report : MethodName := ⟨RX11, "report", "(III)I"⟩
abbrev cX11_untell : ByteArray := prog_1_method_33_code
def yX11_untell : MethodName := ⟨RX11, "untell", "(I)Z"⟩
abbrev cX11_later : ByteArray := prog_1_method_34_code
def yX11_later : MethodName := ⟨RX11, "later", "(I)I"⟩
abbrev cX11_truths : ByteArray := prog_1_method_35_code
def yX11_truths : MethodName := ⟨RX11, "truths", "(I)I"⟩
abbrev cX11_range : ByteArray := prog_1_method_36_code
def yX11_range : MethodName := ⟨RX11, "range", "(III)I"⟩
abbrev cX11_liars : ByteArray := prog_1_method_37_code
def yX11_liars : MethodName := ⟨RX11, "liars", "(I)I"⟩
abbrev cX11_knock : ByteArray := prog_1_method_38_code
def yX11_knock : MethodName := ⟨RX11, "knock", "(II)I"⟩
abbrev cX11_tells : ByteArray := prog_1_method_39_code
def yX11_tells : MethodName := ⟨RX11, "tells", "(II)I"⟩
abbrev cX11_odds : ByteArray := prog_1_method_40_code
def yX11_odds : MethodName := ⟨RX11, "odds", "(IIII)I"⟩
abbrev cX11_image : ByteArray := prog_1_method_41_code
def yX11_image : MethodName := ⟨RX11, "image", "(I)I"⟩
abbrev cX11_back : ByteArray := prog_1_method_42_code
def yX11_back : MethodName := ⟨RX11, "back", "(I)I"⟩
abbrev cX11_about : ByteArray := prog_1_method_43_code
def yX11_about : MethodName := ⟨RX11, "about", "(I)I"⟩
abbrev cX11_isHouse : ByteArray := prog_1_method_44_code
def yX11_isHouse : MethodName := ⟨RX11, "isHouse", "(I)Z"⟩
abbrev cX11_isWithin : ByteArray := prog_1_method_45_code
def yX11_isWithin : MethodName := ⟨RX11, "isWithin", "(III)Z"⟩
abbrev cX11_limited : ByteArray := prog_1_method_46_code
def yX11_limited : MethodName := ⟨RX11, "limited", "(III)I"⟩
abbrev cX11_sumOf : ByteArray := prog_1_method_47_code
def yX11_sumOf : MethodName := ⟨RX11, "sumOf", "(I)I"⟩
abbrev cX11_allBowls : ByteArray := prog_1_method_48_code
def yX11_allBowls : MethodName := ⟨RX11, "allBowls", "([I)I"⟩
abbrev cX11_fullest : ByteArray := prog_1_method_49_code
def yX11_fullest : MethodName := ⟨RX11, "fullest", "([I)I"⟩
abbrev cX11_leaveOne : ByteArray := prog_1_method_50_code
def yX11_leaveOne : MethodName := ⟨RX11, "leaveOne", "(I)V"⟩
abbrev cX11_foresee : ByteArray := prog_1_method_51_code
def yX11_foresee : MethodName := ⟨RX11, "foresee", "(I)V"⟩
abbrev cX11_lay : ByteArray := prog_1_method_52_code
def yX11_lay : MethodName := ⟨RX11, "lay", "([II)V"⟩
abbrev cX11_learn : ByteArray := prog_1_method_53_code
def yX11_learn : MethodName := ⟨RX11, "learn", "(I)V"⟩
abbrev cX11_commonDivisor : ByteArray := prog_1_method_54_code
def yX11_commonDivisor : MethodName := ⟨RX11, "commonDivisor", "(II)I"⟩
def RX12 : String := "StoneCensusModel"
def TX12 : u_T := fun k => match k with
  | 0 => ("StoneCensusModel", "tape", "[I", true)
  | 1 => ("StoneCensusModel", "taped", "I", false)
  | 2 => ("StoneCensusModel", "fault", "I", false)
  | 3 => ("StoneCensusModel", "faultPlace", "I", false)
  | 4 => ("StoneCensusModel", "at", "I", false)
  | 5 => ("StoneCensusModel", "size", "I", false)
  | 6 => ("StoneCensusModel", "sort", "I", false)
  | 7 => ("StoneCensusModel", "place", "I", false)
  | 8 => ("StoneCensusModel", "number", "I", false)
  | 9 => ("StoneCensusModel", "word", "J", false)
  | 10 => ("StoneCensusModel", "nName", "[J", true)
  | 11 => ("StoneCensusModel", "nStep", "[I", true)
  | 12 => ("StoneCensusModel", "nArg", "[I", true)
  | 13 => ("StoneCensusModel", "nMany", "[I", true)
  | 14 => ("StoneCensusModel", "step", "[I", true)
  | 15 => ("StoneCensusModel", "arg", "[I", true)
  | 16 => ("StoneCensusModel", "many", "[I", true)
  | 17 => ("StoneCensusModel", "open", "[I", true)
  | 18 => ("StoneCensusModel", "values", "[I", true)
  | 19 => ("StoneCensusModel", "nHasForm", "[Z", true)
  | 20 => ("StoneCensusModel", "hasForm", "[Z", true)
  | 21 => ("StoneCensusModel", "form", "I", false)
  | 22 => ("StoneCensusModel", "opens", "I", false)
  | 23 => ("StoneCensusModel", "nUnits", "I", false)
  | 24 => ("StoneCensusModel", "units", "I", false)
  | 25 => ("StoneCensusModel", "ownUnits", "I", false)
  | 26 => ("StoneCensusModel", "deep", "I", false)
  | 27 => ("StoneCensusModel", "asks", "[I", true)
  | 28 => ("StoneCensusModel", "nPlace", "[I", true)
  | 29 => ("StoneCensusModel", "nHeads", "[I", true)
  | 30 => ("StoneCensusModel", "nJam", "[I", true)
  | 31 => ("StoneCensusModel", "nHabit", "[I", true)
  | 32 => ("StoneCensusModel", "placeOf", "[I", true)
  | 33 => ("StoneCensusModel", "jam", "[I", true)
  | 34 => ("StoneCensusModel", "habit", "[I", true)
  | 35 => ("StoneCensusModel", "nHouses", "I", false)
  | 36 => ("StoneCensusModel", "nDraw", "I", false)
  | 37 => ("StoneCensusModel", "houses", "I", false)
  | 38 => ("StoneCensusModel", "nHasDraw", "Z", false)
  | 39 => ("StoneCensusModel", "now", "[I", true)
  | 40 => ("StoneCensusModel", "heads", "[I", true)
  | 41 => ("StoneCensusModel", "hidden", "[I", true)
  | 42 => ("StoneCensusModel", "bowl", "[I", true)
  | 43 => ("StoneCensusModel", "year", "I", false)
  | 44 => ("StoneCensusModel", "seed", "I", false)
  | 45 => ("StoneCensusModel", "were", "[I", true)
  | 46 => ("StoneCensusModel", "acts", "I", false)
  | 47 => ("StoneCensusModel", "undone", "I", false)
  | 48 => ("StoneCensusModel", "taxBy", "[I", true)
  | 49 => ("StoneCensusModel", "hides", "[I", true)
  | 50 => ("StoneCensusModel", "lies", "[I", true)
  | 51 => ("StoneCensusModel", "lain", "I", false)
  | 52 => ("StoneCensusModel", "members", "I", false)
  | 53 => ("StoneCensusModel", "counter", "[I", true)
  | 54 => ("StoneCensusModel", "seat", "[I", true)
  | 55 => ("StoneCensusModel", "rests", "[I", true)
  | 56 => ("StoneCensusModel", "seatWas", "[I", true)
  | 57 => ("StoneCensusModel", "road", "[I", true)
  | 58 => ("StoneCensusModel", "fromSet", "[I", true)
  | 59 => ("StoneCensusModel", "byKnock", "[I", true)
  | 60 => ("StoneCensusModel", "queue", "[I", true)
  | 61 => ("StoneCensusModel", "repSet", "[I", true)
  | 62 => ("StoneCensusModel", "repLeast", "[I", true)
  | 63 => ("StoneCensusModel", "repMost", "[I", true)
  | 64 => ("StoneCensusModel", "repTold", "[I", true)
  | 65 => ("StoneCensusModel", "repUntold", "[I", true)
  | 66 => ("StoneCensusModel", "reports", "I", false)
  | 67 => ("StoneCensusModel", "time", "I", false)
  | 68 => ("StoneCensusModel", "tally", "[I", true)
  | 69 => ("StoneCensusModel", "truthMany", "I", false)
  | 70 => ("StoneCensusModel", "isSeen", "[Z", true)
  | 71 => ("StoneCensusModel", "hasBox", "[Z", true)
  | _ => ("StoneCensusModel", "boxes", "[I", true)
def tyX12 : Nat → FieldType := fun k => match k with
  | 0 => .array .int
  | 1 => .int
  | 2 => .int
  | 3 => .int
  | 4 => .int
  | 5 => .int
  | 6 => .int
  | 7 => .int
  | 8 => .int
  | 9 => .long
  | 10 => .array .long
  | 11 => .array .int
  | 12 => .array .int
  | 13 => .array .int
  | 14 => .array .int
  | 15 => .array .int
  | 16 => .array .int
  | 17 => .array .int
  | 18 => .array .int
  | 19 => .array .boolean
  | 20 => .array .boolean
  | 21 => .int
  | 22 => .int
  | 23 => .int
  | 24 => .int
  | 25 => .int
  | 26 => .int
  | 27 => .array .int
  | 28 => .array .int
  | 29 => .array .int
  | 30 => .array .int
  | 31 => .array .int
  | 32 => .array .int
  | 33 => .array .int
  | 34 => .array .int
  | 35 => .int
  | 36 => .int
  | 37 => .int
  | 38 => .boolean
  | 39 => .array .int
  | 40 => .array .int
  | 41 => .array .int
  | 42 => .array .int
  | 43 => .int
  | 44 => .int
  | 45 => .array .int
  | 46 => .int
  | 47 => .int
  | 48 => .array .int
  | 49 => .array .int
  | 50 => .array .int
  | 51 => .int
  | 52 => .int
  | 53 => .array .int
  | 54 => .array .int
  | 55 => .array .int
  | 56 => .array .int
  | 57 => .array .int
  | 58 => .array .int
  | 59 => .array .int
  | 60 => .array .int
  | 61 => .array .int
  | 62 => .array .int
  | 63 => .array .int
  | 64 => .array .int
  | 65 => .array .int
  | 66 => .int
  | 67 => .int
  | 68 => .array .int
  | 69 => .int
  | 70 => .array .boolean
  | 71 => .array .boolean
  | _ => .array .int
theorem nmX12 : ∀ a, a < 73 → ∀ b, b < 73 → a ≠ b → (TX12 a).2.1 ≠ (TX12 b).2.1 := by decide +kernel
theorem tyX12_ok : ∀ k, k < 73 → parseFieldDescriptor (TX12 k).2.2.1 = some (tyX12 k) := by decide +kernel
abbrev cX12_init : ByteArray := prog_14_method_1_code
def yX12_init : MethodName := ⟨RX12, "<init>", "()V"⟩
abbrev cX12_feed : ByteArray := prog_14_method_2_code
def yX12_feed : MethodName := ⟨RX12, "feed", "(IIIII)I"⟩
abbrev cX12_four : ByteArray := prog_14_method_3_code
def yX12_four : MethodName := ⟨RX12, "four", "(I)V"⟩
abbrev cX12_end : ByteArray := prog_14_method_4_code
def yX12_end : MethodName := ⟨RX12, "end", "(I)I"⟩
abbrev cX12_here : ByteArray := prog_14_method_5_code
def yX12_here : MethodName := ⟨RX12, "here", "(I)I"⟩
abbrev cX12_isLetter : ByteArray := prog_14_method_6_code
def yX12_isLetter : MethodName := ⟨RX12, "isLetter", "(I)Z"⟩
abbrev cX12_isDigit : ByteArray := prog_14_method_7_code
def yX12_isDigit : MethodName := ⟨RX12, "isDigit", "(I)Z"⟩
abbrev cX12_isSign : ByteArray := prog_14_method_8_code
def yX12_isSign : MethodName := ⟨RX12, "isSign", "(I)Z"⟩
abbrev cX12_token : ByteArray := prog_14_method_9_code
def yX12_token : MethodName := ⟨RX12, "token", "()V"⟩
abbrev cX12_wrong : ByteArray := prog_14_method_10_code
def yX12_wrong : MethodName := ⟨RX12, "wrong", "(I)V"⟩
abbrev cX12_isWord : ByteArray := prog_14_method_11_code
def yX12_isWord : MethodName := ⟨RX12, "isWord", "(J)Z"⟩
abbrev cX12_isOwn : ByteArray := prog_14_method_12_code
def yX12_isOwn : MethodName := ⟨RX12, "isOwn", "()Z"⟩
abbrev cX12_isName : ByteArray := prog_14_method_13_code
def yX12_isName : MethodName := ⟨RX12, "isName", "()Z"⟩
abbrev cX12_want : ByteArray := prog_14_method_14_code
def yX12_want : MethodName := ⟨RX12, "want", "(J)V"⟩
abbrev cX12_toldNumber : ByteArray := prog_14_method_15_code
def yX12_toldNumber : MethodName := ⟨RX12, "toldNumber", "(II)I"⟩
abbrev cX12_told : ByteArray := prog_14_method_16_code
def yX12_told : MethodName := ⟨RX12, "told", "(JII)I"⟩
abbrev cX12_option : ByteArray := prog_14_method_17_code
def yX12_option : MethodName := ⟨RX12, "option", "(J)I"⟩
abbrev cX12_find : ByteArray := prog_14_method_18_code
def yX12_find : MethodName := ⟨RX12, "find", "()I"⟩
abbrev cX12_add : ByteArray := prog_14_method_19_code
def yX12_add : MethodName := ⟨RX12, "add", "(II)V"⟩
abbrev cX12_tight : ByteArray := prog_14_method_20_code
def yX12_tight : MethodName := ⟨RX12, "tight", "(I)I"⟩
abbrev cX12_close : ByteArray := prog_14_method_21_code
def yX12_close : MethodName := ⟨RX12, "close", "(I)V"⟩
abbrev cX12_hasRelation : ByteArray := prog_14_method_22_code
def yX12_hasRelation : MethodName := ⟨RX12, "hasRelation", "()Z"⟩
abbrev cX12_mayNot : ByteArray := prog_14_method_23_code
def yX12_mayNot : MethodName := ⟨RX12, "mayNot", "()Z"⟩
abbrev cX12_asked : ByteArray := prog_14_method_24_code
def yX12_asked : MethodName := ⟨RX12, "asked", "()I"⟩
abbrev cX12_isFull : ByteArray := prog_14_method_25_code
def yX12_isFull : MethodName := ⟨RX12, "isFull", "()Z"⟩
abbrev cX12_countUnit : ByteArray := prog_14_method_26_code
def yX12_countUnit : MethodName := ⟨RX12, "countUnit", "()V"⟩
abbrev cX12_openUp : ByteArray := prog_14_method_27_code
def yX12_openUp : MethodName := ⟨RX12, "openUp", "(I)V"⟩
abbrev cX12_unit : ByteArray := prog_14_method_28_code
def yX12_unit : MethodName := ⟨RX12, "unit", "()V"⟩
abbrev cX12_sign : ByteArray := prog_14_method_29_code
def yX12_sign : MethodName := ⟨RX12, "sign", "()I"⟩
abbrev cX12_hasBracket : ByteArray := prog_14_method_30_code
def yX12_hasBracket : MethodName := ⟨RX12, "hasBracket", "()Z"⟩
abbrev cX12_formula : ByteArray := prog_14_method_31_code
def yX12_formula : MethodName := ⟨RX12, "formula", "(I)V"⟩
abbrev cX12_truth : ByteArray := prog_14_method_32_code
def yX12_truth : MethodName := ⟨RX12, "truth", "(Z)I"⟩
abbrev cX12_done : ByteArray := prog_14_method_33_code
def yX12_done : MethodName := ⟨RX12, "done", "(III)I"⟩
abbrev cX12_askOf : ByteArray := prog_14_method_34_code
def yX12_askOf : MethodName := ⟨RX12, "askOf", "(IIIIII)V"⟩
abbrev cX12_worked : ByteArray := prog_14_method_35_code
def yX12_worked : MethodName := ⟨RX12, "worked", "(I)I"⟩
abbrev cX12_readHouse : ByteArray := prog_14_method_36_code
def yX12_readHouse : MethodName := ⟨RX12, "readHouse", "()V"⟩
abbrev cX12_readLine : ByteArray := prog_14_method_37_code
def yX12_readLine : MethodName := ⟨RX12, "readLine", "()V"⟩
abbrev cX12_readAll : ByteArray := prog_14_method_38_code
def yX12_readAll : MethodName := ⟨RX12, "readAll", "()V"⟩
abbrev cX12_province : ByteArray := prog_14_method_39_code
def yX12_province : MethodName := ⟨RX12, "province", "()I"⟩
abbrev cX12_fault : ByteArray := prog_14_method_40_code
def yX12_fault : MethodName := ⟨RX12, "fault", "(I)I"⟩
abbrev cX12_isIn : ByteArray := prog_14_method_41_code
def yX12_isIn : MethodName := ⟨RX12, "isIn", "(III)Z"⟩
abbrev cX12_bound : ByteArray := prog_14_method_42_code
def yX12_bound : MethodName := ⟨RX12, "bound", "(III)I"⟩
abbrev cX12_isHouse : ByteArray := prog_14_method_43_code
def yX12_isHouse : MethodName := ⟨RX12, "isHouse", "(I)Z"⟩
abbrev cX12_load : ByteArray := prog_14_method_44_code
def yX12_load : MethodName := ⟨RX12, "load", "()V"⟩
abbrev cX12_keep : ByteArray := prog_14_method_45_code
def yX12_keep : MethodName := ⟨RX12, "keep", "()V"⟩
abbrev cX12_stonesOf : ByteArray := prog_14_method_46_code
def yX12_stonesOf : MethodName := ⟨RX12, "stonesOf", "(I)I"⟩
abbrev cX12_taxOf : ByteArray := prog_14_method_47_code
def yX12_taxOf : MethodName := ⟨RX12, "taxOf", "(II)I"⟩
abbrev cX12_shows : ByteArray := prog_14_method_48_code
def yX12_shows : MethodName := ⟨RX12, "shows", "(I)Z"⟩
abbrev cX12_notMoreHidden : ByteArray := prog_14_method_49_code
def yX12_notMoreHidden : MethodName := ⟨RX12, "notMoreHidden", "(I)V"⟩
abbrev cX12_goSummer : ByteArray := prog_14_method_50_code
def yX12_goSummer : MethodName := ⟨RX12, "goSummer", "()V"⟩
abbrev cX12_allBowls : ByteArray := prog_14_method_51_code
def yX12_allBowls : MethodName := ⟨RX12, "allBowls", "()I"⟩
abbrev cX12_house : ByteArray := prog_14_method_52_code
def yX12_house : MethodName := ⟨RX12, "house", "(II)I"⟩
abbrev cX12_partOf : ByteArray := prog_14_method_53_code
def yX12_partOf : MethodName := ⟨RX12, "partOf", "(II)I"⟩
abbrev cX12_sum : ByteArray := prog_14_method_54_code
def yX12_sum : MethodName := ⟨RX12, "sum", "(I)I"⟩
abbrev cX12_act : ByteArray := prog_14_method_55_code
def yX12_act : MethodName := ⟨RX12, "act", "()V"⟩
abbrev cX12_exchange : ByteArray := prog_14_method_56_code
def yX12_exchange : MethodName := ⟨RX12, "exchange", "(I)V"⟩
abbrev cX12_comes : ByteArray := prog_14_method_57_code
def yX12_comes : MethodName := ⟨RX12, "comes", "(I)I"⟩
abbrev cX12_leaves : ByteArray := prog_14_method_58_code
def yX12_leaves : MethodName := ⟨RX12, "leaves", "(I)V"⟩
abbrev cX12_goes : ByteArray := prog_14_method_59_code
def yX12_goes : MethodName := ⟨RX12, "goes", "(I)I"⟩
abbrev cX12_moves : ByteArray := prog_14_method_60_code
def yX12_moves : MethodName := ⟨RX12, "moves", "(II)I"⟩
abbrev cX12_hide : ByteArray := prog_14_method_61_code
def yX12_hide : MethodName := ⟨RX12, "hide", "(II)I"⟩
abbrev cX12_steal : ByteArray := prog_14_method_62_code
def yX12_steal : MethodName := ⟨RX12, "steal", "(II)I"⟩
abbrev cX12_summer : ByteArray := prog_14_method_63_code
def yX12_summer : MethodName := ⟨RX12, "summer", "()I"⟩
abbrev cX12_undo : ByteArray := prog_14_method_64_code
def yX12_undo : MethodName := ⟨RX12, "undo", "()Z"⟩
abbrev cX12_redo : ByteArray := prog_14_method_65_code
def yX12_redo : MethodName := ⟨RX12, "redo", "()Z"⟩
abbrev cX12_falses : ByteArray := prog_14_method_66_code
def yX12_falses : MethodName := ⟨RX12, "falses", "()I"⟩
abbrev cX12_goFar : ByteArray := prog_14_method_67_code
def yX12_goFar : MethodName := ⟨RX12, "goFar", "(I)V"⟩
abbrev cX12_will : ByteArray := prog_14_method_68_code
def yX12_will : MethodName := ⟨RX12, "will", "(II)I"⟩
abbrev cX12_bowls : ByteArray := prog_14_method_69_code
def yX12_bowls : MethodName := ⟨RX12, "bowls", "(I)I"⟩
abbrev cX12_layTaxes : ByteArray := prog_14_method_70_code
def yX12_layTaxes : MethodName := ⟨RX12, "layTaxes", "()V"⟩
abbrev cX12_rowsOf : ByteArray := prog_14_method_71_code
def yX12_rowsOf : MethodName := ⟨RX12, "rowsOf", "()I"⟩
abbrev cX12_taxOfRow : ByteArray := prog_14_method_72_code
def yX12_taxOfRow : MethodName := ⟨RX12, "taxOfRow", "(I)I"⟩
abbrev cX12_leave : ByteArray := prog_14_method_73_code
def yX12_leave : MethodName := ⟨RX12, "leave", "(I)I"⟩
abbrev cX12_least : ByteArray := prog_14_method_74_code
def yX12_least : MethodName := ⟨RX12, "least", "()I"⟩
abbrev cX12_layCounters : ByteArray := prog_14_method_75_code
def yX12_layCounters : MethodName := ⟨RX12, "layCounters", "(I)I"⟩
abbrev cX12_doneAt : ByteArray := prog_14_method_76_code
def yX12_doneAt : MethodName := ⟨RX12, "doneAt", "()I"⟩
abbrev cX12_countersRows : ByteArray := prog_14_method_77_code
def yX12_countersRows : MethodName := ⟨RX12, "countersRows", "()I"⟩
abbrev cX12_rounds : ByteArray := prog_14_method_78_code
def yX12_rounds : MethodName := ⟨RX12, "rounds", "(I)I"⟩
abbrev cX12_noon : ByteArray := prog_14_method_79_code
def yX12_noon : MethodName := ⟨RX12, "noon", "(I)I"⟩
abbrev cX12_without : ByteArray := prog_14_method_80_code
def yX12_without : MethodName := ⟨RX12, "without", "(II)I"⟩
abbrev cX12_missed : ByteArray := prog_14_method_81_code
def yX12_missed : MethodName := ⟨RX12, "missed", "(I)I"⟩
abbrev cX12_doubled : ByteArray := prog_14_method_82_code
def yX12_doubled : MethodName := ⟨RX12, "doubled", "(I)I"⟩
abbrev cX12_laySeats : ByteArray := prog_14_method_83_code
def yX12_laySeats : MethodName := ⟨RX12, "laySeats", "(II)V"⟩
abbrev cX12_seats : ByteArray := prog_14_method_84_code
def yX12_seats : MethodName := ⟨RX12, "seats", "(III)I"⟩
abbrev cX12_keepSeats : ByteArray := prog_14_method_85_code
def yX12_keepSeats : MethodName := ⟨RX12, "keepSeats", "()V"⟩
abbrev cX12_isOtherSeats : ByteArray := prog_14_method_86_code
def yX12_isOtherSeats : MethodName := ⟨RX12, "isOtherSeats", "()Z"⟩
abbrev cX12_stone : ByteArray := prog_14_method_87_code
def yX12_stone : MethodName := ⟨RX12, "stone", "(II)I"⟩
abbrev cX12_loss : ByteArray := prog_14_method_88_code
def yX12_loss : MethodName := ⟨RX12, "loss", "(I)I"⟩
abbrev cX12_draft : ByteArray := prog_14_method_89_code
def yX12_draft : MethodName := ⟨RX12, "draft", "(II)I"⟩
abbrev cX12_layRoad : ByteArray := prog_14_method_90_code
def yX12_layRoad : MethodName := ⟨RX12, "layRoad", "()V"⟩
abbrev cX12_moved : ByteArray := prog_14_method_91_code
def yX12_moved : MethodName := ⟨RX12, "moved", "(I)I"⟩
abbrev cX12_chase : ByteArray := prog_14_method_92_code
def yX12_chase : MethodName := ⟨RX12, "chase", "()I"⟩
abbrev cX12_marks : ByteArray := prog_14_method_93_code
def yX12_marks : MethodName := ⟨RX12, "marks", "(III)I"⟩
abbrev cX12_lies : ByteArray := prog_14_method_94_code
def yX12_lies : MethodName := ⟨RX12, "lies", "(I)I"⟩
abbrev cX12_report : ByteArray := prog_14_method_95_code
def yX12_report : MethodName := ⟨RX12, "report", "(III)I"⟩
abbrev cX12_untell : ByteArray := prog_14_method_96_code
def yX12_untell : MethodName := ⟨RX12, "untell", "(I)Z"⟩
abbrev cX12_later : ByteArray := prog_14_method_97_code
def yX12_later : MethodName := ⟨RX12, "later", "(I)I"⟩
abbrev cX12_headOf : ByteArray := prog_14_method_98_code
def yX12_headOf : MethodName := ⟨RX12, "headOf", "(II)I"⟩
abbrev cX12_liarsOf : ByteArray := prog_14_method_99_code
def yX12_liarsOf : MethodName := ⟨RX12, "liarsOf", "(III)I"⟩
abbrev cX12_layTruths : ByteArray := prog_14_method_100_code
def yX12_layTruths : MethodName := ⟨RX12, "layTruths", "(I)V"⟩
abbrev cX12_truths : ByteArray := prog_14_method_101_code
def yX12_truths : MethodName := ⟨RX12, "truths", "(I)I"⟩
abbrev cX12_range : ByteArray := prog_14_method_102_code
def yX12_range : MethodName := ⟨RX12, "range", "(III)I"⟩
abbrev cX12_liars : ByteArray := prog_14_method_103_code
def yX12_liars : MethodName := ⟨RX12, "liars", "(I)I"⟩
abbrev cX12_mostOf : ByteArray := prog_14_method_104_code
def yX12_mostOf : MethodName := ⟨RX12, "mostOf", "(I)I"⟩
abbrev cX12_knock : ByteArray := prog_14_method_105_code
def yX12_knock : MethodName := ⟨RX12, "knock", "(II)I"⟩
abbrev cX12_tellsAll : ByteArray := prog_14_method_106_code
def yX12_tellsAll : MethodName := ⟨RX12, "tellsAll", "(II)Z"⟩
abbrev cX12_membersOf : ByteArray := prog_14_method_107_code
def yX12_membersOf : MethodName := ⟨RX12, "membersOf", "(I)I"⟩
abbrev cX12_tells : ByteArray := prog_14_method_108_code
def yX12_tells : MethodName := ⟨RX12, "tells", "(II)I"⟩
abbrev cX12_common : ByteArray := prog_14_method_109_code
def yX12_common : MethodName := ⟨RX12, "common", "(II)I"⟩
abbrev cX12_odds : ByteArray := prog_14_method_110_code
def yX12_odds : MethodName := ⟨RX12, "odds", "(IIII)I"⟩
abbrev cX12_isBox : ByteArray := prog_14_method_111_code
def yX12_isBox : MethodName := ⟨RX12, "isBox", "(I)Z"⟩
abbrev cX12_image : ByteArray := prog_14_method_112_code
def yX12_image : MethodName := ⟨RX12, "image", "(I)I"⟩
abbrev cX12_back : ByteArray := prog_14_method_113_code
def yX12_back : MethodName := ⟨RX12, "back", "(I)I"⟩
abbrev cX12_about : ByteArray := prog_14_method_114_code
def yX12_about : MethodName := ⟨RX12, "about", "(I)I"⟩
def RJ6 : String := "java/lang/Integer"
abbrev cJ6_bitCount_0f7a4 : ByteArray := prog_15_method_49_code
def yJ6_bitCount_0f7a4 : MethodName := ⟨RJ6, "bitCount", "(I)I"⟩
def RJ9 : String := "java/lang/Math"
abbrev cJ9_max_7cf53 : ByteArray := prog_16_method_65_code
def yJ9_max_7cf53 : MethodName := ⟨RJ9, "max", "(II)I"⟩
abbrev cJ9_min_7cf53 : ByteArray := prog_16_method_69_code
def yJ9_min_7cf53 : MethodName := ⟨RJ9, "min", "(II)I"⟩
def RJ0 : String := "java/lang/String"
abbrev cJ0_length_8abf5 : ByteArray := prog_17_method_54_code
def yJ0_length_8abf5 : MethodName := ⟨RJ0, "length", "()I"⟩
abbrev cJ0_charAt_5068e : ByteArray := prog_17_method_56_code
def yJ0_charAt_5068e : MethodName := ⟨RJ0, "charAt", "(I)C"⟩
abbrev cJ0_coder_7d493 : ByteArray := prog_17_method_152_code
def yJ0_coder_7d493 : MethodName := ⟨RJ0, "coder", "()B"⟩
abbrev cJ0_isLatin1_aae02 : ByteArray := prog_17_method_154_code
def yJ0_isLatin1_aae02 : MethodName := ⟨RJ0, "isLatin1", "()Z"⟩
abbrev cJ0_checkIndex_df160 : ByteArray := prog_17_method_155_code
def yJ0_checkIndex_df160 : MethodName := ⟨RJ0, "checkIndex", "(II)V"⟩
def RJ1 : String := "java/lang/StringLatin1"
abbrev cJ1_charAt_3b067 : ByteArray := prog_18_method_2_code
def yJ1_charAt_3b067 : MethodName := ⟨RJ1, "charAt", "([BI)C"⟩
def RJ2 : String := "java/lang/StringUTF16"
abbrev cJ2_getChar_3b067 : ByteArray := prog_19_method_5_code
def yJ2_getChar_3b067 : MethodName := ⟨RJ2, "getChar", "([BI)C"⟩
abbrev cJ2_length_9d52b : ByteArray := prog_19_method_6_code
def yJ2_length_9d52b : MethodName := ⟨RJ2, "length", "([B)I"⟩
abbrev cJ2_charAt_3b067 : ByteArray := prog_19_method_83_code
def yJ2_charAt_3b067 : MethodName := ⟨RJ2, "charAt", "([BI)C"⟩
abbrev cJ2_checkIndex_2214a : ByteArray := prog_19_method_91_code
def yJ2_checkIndex_2214a : MethodName := ⟨RJ2, "checkIndex", "(I[B)V"⟩
def RJ10 : String := "java/lang/System"
def RJ7 : String := "java/util/Arrays"
abbrev cJ7_fill_53178 : ByteArray := prog_21_method_103_code
def yJ7_fill_53178 : MethodName := ⟨RJ7, "fill", "([II)V"⟩
def RJ3 : String := "jdk/internal/util/Preconditions"
abbrev cJ3_checkIndex_8e157 : ByteArray := prog_22_method_11_code
def yJ3_checkIndex_8e157 : MethodName := ⟨RJ3, "checkIndex", "(IILjava/util/function/BiFunction;)I"⟩
def RL : String := "StoneCensusLaw"
abbrev cL_law : ByteArray := code
def yL_law : MethodName := ⟨RL, "law", "([I)Z"⟩
abbrev vwCl : List vw_C := [(RX0, TX0, 5), (RX1, TX1, 4), (RX2, TX2, 6), (RX3, TX3, 9), (RX4, TX4, 10), (RX5, TX5, 6), (RX6, TX6, 9), (RX7, TX7, 5), (RX8, TX8, 12), (RX9, TX9, 3), (RX10, TX10, 15), (RX11, TX11, 15), (RX12, TX12, 73)]
end
section
/-- the words that stay as they are while classes are linked -/
def mTb : List Cond := lw_tbl.filter goodWord
theorem mTb_in {w : Cond} (h : w ∈ mTb) : w ∈ lw_tbl := (List.mem_filter.mp h).1
theorem mTb_good : ∀ w ∈ mTb, (w.onTables && w.keeps) = true ∨ ∃ ty, w = .arrayClass ty := fun w h => good_of_word (List.mem_filter.mp h).2
/-- calls of private members of nest mates -/
def mNs : List (String × Nat × MethodName × String) := [(RX11, 9, yX4_init, "StoneCensus"), (RX11, 18, yX8_init, "StoneCensus"), (RX8, 30, yX0_init, "StoneCensus"), (RX11, 35, yX2_init, "StoneCensus"), (RX11, 42, yX1_init, "StoneCensus"), (RX11, 49, yX6_init, "StoneCensus"), (RX11, 56, yX7_init, "StoneCensus"), (RX11, 63, yX5_init, "StoneCensus"), (RX11, 70, yX10_init, "StoneCensus"), (RX10, 25, yX9_init, "StoneCensus"), (RX11, 77, yX3_init, "StoneCensus"), (RX3, 18, yX9_init, "StoneCensus"), (RX8, 80, yX11_limited, "StoneCensus")]
/-! THE SMALL MACHINE. A heap is six things: what ints, longs and references the cells hold (by cell and place), what each cell is (a class's number, or an array's element type and length), how many cells and how many slots there are. A reference is a cell's number; NUL is null; from 900000 on the numbers are cells of the start (the script, the String constants). -/
abbrev mSh : Type := Nat ⊕ (FieldType × Nat)
abbrev mHp : Type := (Nat → Nat → Int32) × (Nat → Nat → Int64) × (Nat → Nat → Nat) × (Nat → mSh) × Nat × Nat
/-- a configuration: is all well so far, pc, locals, stack, heap -/
abbrev mC : Type := Bool × Nat × List Value × List Value × mHp
/-- a row of code: pc, instruction, length, two numbers that say what its index means -/
abbrev mI : Type := Nat × Instr × Nat × Nat × Nat
def hI (h : mHp) : Nat → Nat → Int32 := h.1
def hJ (h : mHp) : Nat → Nat → Int64 := h.2.1
def hR (h : mHp) : Nat → Nat → Nat := h.2.2.1
def hS (h : mHp) : Nat → mSh := h.2.2.2.1
def hN (h : mHp) : Nat := h.2.2.2.2.1
def hW (h : mHp) : Nat := h.2.2.2.2.2
def up2 {α : Type} (f : Nat → Nat → α) (i k : Nat) (v : α) : Nat → Nat → α := va_up f i (va_up (f i) k v)
def putI (h : mHp) (i k : Nat) (v : Int32) : mHp := (up2 h.1 i k v, h.2)
def putJ (h : mHp) (i k : Nat) (v : Int64) : mHp := (h.1, up2 h.2.1 i k v, h.2.2)
def putR (h : mHp) (i k v : Nat) : mHp := (h.1, h.2.1, up2 h.2.2.1 i k v, h.2.2.2)
def NUL : Nat := 999999
def mB : Nat := 900000
def newA (h : mHp) (ty : FieldType) (n : Nat) : mHp := (va_up h.1 (hN h) (fun _ => 0), va_up h.2.1 (hN h) (fun _ => 0), va_up h.2.2.1 (hN h) (fun _ => NUL), va_up h.2.2.2.1 (hN h) (.inr (ty, n)), hN h + 1, hW h + n)
def newO (h : mHp) (c n : Nat) : mHp := (va_up h.1 (hN h) (fun _ => 0), va_up h.2.1 (hN h) (fun _ => 0), va_up h.2.2.1 (hN h) (fun _ => NUL), va_up h.2.2.2.1 (hN h) (.inl c), hN h + 1, hW h + n)
/-- new int[n][k] -/
def newM (h : mHp) (n k : Nat) : mHp :=
  (fun a => if hN h ≤ a then (fun _ => 0) else h.1 a, fun a => if hN h ≤ a then (fun _ => 0) else h.2.1 a,
   fun a => if hN h ≤ a then (if a = hN h then (fun j => if j < n then hN h + 1 + j else NUL) else fun _ => NUL) else h.2.2.1 a,
   fun a => if hN h ≤ a then (if a = hN h then .inr (.array .int, n) else .inr (.int, k)) else h.2.2.2.1 a, hN h + 1 + n, hW h + n + n * k)
def mIx (i : Int32) : Nat := i.toNatClampNeg
def mIn (i : Int32) (n : Nat) : Bool := !(decide (i < 0)) && decide (i.toNatClampNeg < n)
/-- r is an object of class c -/
def kAO (n : Nat) (sh : mSh) (r c : Nat) : Bool := Nat.blt r n && (match sh with
  | .inl x => Nat.beq x c
  | .inr _ => false)
/-- r is an array of ints (of bytes or booleans; of longs; of rows of ints), and i is a place of it -/
def kAI (n : Nat) (sh : mSh) (r : Nat) (i : Int32) : Bool := Nat.blt r n && (match sh with
  | .inr (.int, n) => mIn i n
  | _ => false)
def kAB (n : Nat) (sh : mSh) (r : Nat) (i : Int32) : Bool := Nat.blt r n && (match sh with
  | .inr (.byte, n) => mIn i n
  | .inr (.boolean, n) => mIn i n
  | _ => false)
def kAJ (n : Nat) (sh : mSh) (r : Nat) (i : Int32) : Bool := Nat.blt r n && (match sh with
  | .inr (.long, n) => mIn i n
  | _ => false)
def kAR (n : Nat) (sh : mSh) (r : Nat) (i : Int32) : Bool := Nat.blt r n && (match sh with
  | .inr (.array .int, n) => mIn i n
  | _ => false)
def kLen (sh : mSh) : Nat := match sh with
  | .inr (_, n) => n
  | .inl _ => 0
def kAL (n : Nat) (sh : mSh) (r : Nat) : Bool := Nat.blt r n && (match sh with
  | .inr (.int, _) => true
  | _ => false)
def chO (h : mHp) (r c : Nat) : Bool := kAO (hN h) (hS h r) r c
def chI (h : mHp) (r : Nat) (i : Int32) : Bool := kAI (hN h) (hS h r) r i
def chB (h : mHp) (r : Nat) (i : Int32) : Bool := kAB (hN h) (hS h r) r i
def chJ (h : mHp) (r : Nat) (i : Int32) : Bool := kAJ (hN h) (hS h r) r i
def chR (h : mHp) (r : Nat) (i : Int32) : Bool := kAR (hN h) (hS h r) r i
def mLen (h : mHp) (r : Nat) : Nat := kLen (hS h r)
def chL (h : mHp) (r : Nat) : Bool := kAL (hN h) (hS h r) r
/-- what a store into a byte or a boolean array makes of a number -/
def kNar (sh : mSh) (x : Int32) : Int32 := match sh with
  | .inr (.byte, _) => vp_nar .byte x
  | _ => vp_nar .boolean x
def mNar (h : mHp) (r : Nat) (x : Int32) : Int32 := kNar (hS h r) x
/-- a number fits a field -/
def mFit (ty : FieldType) (x : Int32) : Bool := match ty with
  | .int => true
  | .boolean => decide (x = 0 ∨ x = 1)
  | .char => decide (narrow .char (.int x) = .int x) && fits .char (.int x)
  | _ => false
def mTy (c k : Nat) : FieldType := match c with
  | 0 => tyX0 k
  | 1 => tyX1 k
  | 2 => tyX2 k
  | 3 => tyX3 k
  | 4 => tyX4 k
  | 5 => tyX5 k
  | 6 => tyX6 k
  | 7 => tyX7 k
  | 8 => tyX8 k
  | 9 => tyX9 k
  | 10 => tyX10 k
  | 11 => tyX11 k
  | _ => tyX12 k
def mNf (c : Nat) : Nat := cond (Nat.blt c 6) (cond (Nat.blt c 3) (cond (Nat.beq c 0) 5 (cond (Nat.beq c 1) 4 6)) (cond (Nat.beq c 3) 9 (cond (Nat.beq c 4) 10 6))) (cond (Nat.blt c 9) (cond (Nat.beq c 6) 9 (cond (Nat.beq c 7) 5 12)) (cond (Nat.blt c 11) (cond (Nat.beq c 9) 3 15) (cond (Nat.beq c 11) 15 73)))
/-! what the cells are in the machine -/
/-- the first address, the addresses of the start's cells, of the strings' bytes, the classes, the arrays' classes -/
abbrev mG : Type := Nat × (Nat → Nat) × (Nat → Nat) × va_G × (FieldType → ClassId)
def mAd (G : mG) (i : Nat) : Nat := if i < 900000 then G.1 + i else G.2.1 (i - 900000)
def mRo (G : mG) (i : Nat) : Option Nat := if i = NUL then none else some (mAd G i)
def mCv (G : mG) (v : Value) : Value := match v with
  | .ref i => va_rf (mRo G i)
  | w => w
def mFv (G : mG) (h : mHp) (i k : Nat) (ty : FieldType) : Value := match ty with
  | .long => .long (hJ h i k)
  | .object _ => va_rf (mRo G (hR h i k))
  | .array _ => va_rf (mRo G (hR h i k))
  | _ => .int (hI h i k)
def mAr (G : mG) (h : mHp) (i n : Nat) (ty : FieldType) : vp_A := match ty with
  | .long => (n, .inr (.inl (hJ h i)))
  | .object _ => (n, .inr (.inr (.inr (.inr (fun k => mRo G (hR h i k))))))
  | .array _ => (n, .inr (.inr (.inr (.inr (fun k => mRo G (hR h i k))))))
  | _ => (n, .inl (hI h i))
def mEl (G : mG) (h : mHp) (i : Nat) : va_E := match hS h i with
  | .inl c => .inr (c, (List.range (mNf c)).map (fun k => mFv G h i k (mTy c k)))
  | .inr (ty, n) => .inl (G.2.2.2.2 ty, mAr G h i n ty)
def mWs (G : mG) (h : mHp) : va_W := (List.range (hN h)).map (fun i => (G.1 + i, mEl G h i))
def mA (G : mG) : Nat → Prop := fun q => G.1 ≤ q
def mWd (G : mG) (h : mHp) (H : Heap) : Prop := va_P G.2.2.2.1 vwCl (mWs G h) H ∧ hN h ≤ 900000
abbrev mTys (G : mG) : List (ClassId × FieldType) := [(G.2.2.2.2 .int, .int), (G.2.2.2.2 .byte, .byte), (G.2.2.2.2 .boolean, .boolean), (G.2.2.2.2 .long, .long), (G.2.2.2.2 (.array .int), .array .int)]
theorem mWs_get {G : mG} {h : mHp} {i : Nat} (hi : i < hN h) : (mWs G h)[i]? = some (G.1 + i, mEl G h i) := by
  unfold mWs
  rw [List.getElem?_map, List.getElem?_range hi]
  rfl
theorem mWs_len {G : mG} {h : mHp} : (mWs G h).length = hN h := by simp [mWs]
theorem mWs_D {G : mG} {h : mHp} : va_D (mA G) (mWs G h) := by
  have key : ∀ (k : Nat) (q : Nat × va_E), (mWs G h)[k]? = some q → q.1 = G.1 + k := by
    intro k q hk
    by_cases hl : k < hN h
    · rw [mWs_get hl] at hk
      cases hk
      rfl
    · rw [List.getElem?_eq_none (by rw [mWs_len]; omega)] at hk
      cases hk
  refine ⟨fun i j p q hi hj e => ?_, fun k q hk => ?_⟩
  · have h1 := key i p hi
    have h2 := key j q hj
    omega
  · have h1 := key k q hk
    show G.1 ≤ q.1
    omega
theorem mWs_set {G : mG} {h h' : mHp} {r : Nat} {e : va_E} (hn : hN h' = hN h) (hr : r < hN h) (he : mEl G h' r = e) (ho : ∀ j, j < hN h → j ≠ r → mEl G h' j = mEl G h j) : (mWs G h).set r (G.1 + r, e) = mWs G h' := by
  apply List.ext_getElem?
  intro k
  by_cases hk : k < hN h
  · rw [mWs_get (h := h') (by omega)]
    by_cases e1 : k = r
    · subst e1
      rw [List.getElem?_set_self (by rw [mWs_len]; exact hk), he]
    · rw [List.getElem?_set_ne (fun z => e1 z.symm), mWs_get hk, ho k hk e1]
  · rw [List.getElem?_eq_none (by rw [List.length_set, mWs_len]; omega), List.getElem?_eq_none (by rw [mWs_len]; omega)]
theorem mWs_push {G : mG} {h h' : mHp} {e : va_E} (hn : hN h' = hN h + 1) (he : mEl G h' (hN h) = e) (ho : ∀ j, j < hN h → mEl G h' j = mEl G h j) : mWs G h ++ [(G.1 + hN h, e)] = mWs G h' := by
  apply List.ext_getElem?
  intro k
  by_cases hk : k < hN h
  · rw [mWs_get (h := h') (by omega), List.getElem?_append_left (by rw [mWs_len]; exact hk), mWs_get hk, ho k hk]
  · rw [List.getElem?_append_right (by rw [mWs_len]; omega), mWs_len]
    by_cases e1 : k = hN h
    · subst e1
      rw [mWs_get (by omega), he, Nat.sub_self]
      rfl
    · rw [List.getElem?_eq_none (by simp; omega), List.getElem?_eq_none (by rw [mWs_len]; omega)]
/-! an element behind a store elsewhere -/
theorem mEl_eq {G : mG} {h h' : mHp} {j : Nat} (hs : hS h' j = hS h j) (hi : hI h' j = hI h j) (hj : hJ h' j = hJ h j) (hr : hR h' j = hR h j) : mEl G h' j = mEl G h j := by
  unfold mEl
  rw [hs]
  cases hS h j with
  | inl c =>
    show Sum.inr (c, _) = Sum.inr (c, _)
    congr 2
    apply List.map_congr_left
    intro k _
    unfold mFv
    rw [hi, hj, hr]
  | inr q =>
    obtain ⟨ty, n⟩ := q
    show Sum.inl (_, mAr G h' j n ty) = Sum.inl (_, mAr G h j n ty)
    unfold mAr
    rw [hi, hj, hr]
theorem up2_ne {α : Type} {f : Nat → Nat → α} {i k j : Nat} {v : α} (hj : j ≠ i) : up2 f i k v j = f j := by
  unfold up2 va_up
  rw [if_neg hj]
theorem up2_at {α : Type} {f : Nat → Nat → α} {i k : Nat} {v : α} : up2 f i k v i = va_up (f i) k v := by
  unfold up2 va_up
  rw [if_pos rfl]
theorem mEl_putI {G : mG} {h : mHp} {r k j : Nat} {v : Int32} (hj : j ≠ r) : mEl G (putI h r k v) j = mEl G h j := mEl_eq rfl (up2_ne hj) rfl rfl
theorem mEl_putJ {G : mG} {h : mHp} {r k j : Nat} {v : Int64} (hj : j ≠ r) : mEl G (putJ h r k v) j = mEl G h j := mEl_eq rfl rfl (up2_ne hj) rfl
theorem mEl_putR {G : mG} {h : mHp} {r k v j : Nat} (hj : j ≠ r) : mEl G (putR h r k v) j = mEl G h j := mEl_eq rfl rfl rfl (up2_ne hj)
end
section
/-! ONE STEP of the small machine (no calls, no returns), and that the machine does it. -/
def mSt : List (Nat × String) := [(40, "house"), (86, "at"), (91, "heads"), (93, "jam"), (95, "habit"), (49, "spit"), (58, "tax"), (62, "grow"), (66, "draw"), (119, "or"), (127, "and"), (129, "not"), (158, "hidden"), (160, "stones"), (162, "year")]
def mStB : List (List Int32) := [[104, 111, 117, 115, 101], [97, 116], [104, 101, 97, 100, 115], [106, 97, 109], [104, 97, 98, 105, 116], [115, 112, 105, 116], [116, 97, 120], [103, 114, 111, 119], [100, 114, 97, 119], [111, 114], [97, 110, 100], [110, 111, 116], [104, 105, 100, 100, 101, 110], [115, 116, 111, 110, 101, 115], [121, 101, 97, 114]]
def mStL : List Nat := [5, 2, 5, 3, 5, 4, 3, 4, 4, 2, 3, 3, 6, 6, 4]
def mBad (h : mHp) : mC := (false, 0, [], [], h)
def mTg (pc : Nat) (off : Int) : Nat := ((pc : Int) + off).toNat
def mTk (pc : Nat) (off : Int) : Bool := decide (0 ≤ (pc : Int) + off)
def mU1 (st : List Value) (bad : mC) (f : Int32 → List Value → mC) : mC := match st with
  | .int x :: r => f x r
  | _ => bad
def mU2 (st : List Value) (bad : mC) (f : Int32 → Int32 → List Value → mC) : mC := match st with
  | .int y :: .int x :: r => f x y r
  | _ => bad
def mUl (st : List Value) (bad : mC) (f : Int64 → List Value → mC) : mC := match st with
  | .long x :: r => f x r
  | _ => bad
def mUll (st : List Value) (bad : mC) (f : Int64 → Int64 → List Value → mC) : mC := match st with
  | .long y :: .long x :: r => f x y r
  | _ => bad
def mUr (st : List Value) (bad : mC) (f : Nat → List Value → mC) : mC := match st with
  | .ref x :: r => f x r
  | _ => bad
def mUir (st : List Value) (bad : mC) (f : Int32 → Nat → List Value → mC) : mC := match st with
  | .int i :: .ref a :: r => f i a r
  | _ => bad
def mUxir (st : List Value) (bad : mC) (f : Value → Int32 → Nat → List Value → mC) : mC := match st with
  | x :: .int i :: .ref a :: r => f x i a r
  | _ => bad
def mUvr (st : List Value) (bad : mC) (f : Value → Nat → List Value → mC) : mC := match st with
  | v :: .ref a :: r => f v a r
  | _ => bad
def mUv (st : List Value) (bad : mC) (f : Value → List Value → mC) : mC := match st with
  | v :: r => f v r
  | _ => bad
def mUvv (st : List Value) (bad : mC) (f : Value → Value → List Value → mC) : mC := match st with
  | v :: w :: r => f v w r
  | _ => bad
def mUc (st : List Value) (bad : mC) (f : Int32 → Int32 → Nat → Int32 → Nat → List Value → mC) : mC := match st with
  | .int n :: .int dp :: .ref d :: .int sp :: .ref a :: r => f n dp d sp a r
  | _ => bad
/-- copying of ints between arrays -/
def cpyI (h : mHp) (a d : Nat) (sp dp n : Int32) : mHp := (va_up h.1 d (va_cpy (h.1 a) (h.1 d) (mIx sp) (mIx dp) (mIx n)), h.2)
def cpOk (la ld : Nat) (sp dp n : Int32) : Bool := (!(decide (sp < 0)) && !(decide (dp < 0)) && !(decide (n < 0))) && (decide (mIx sp + mIx n ≤ la) && decide (mIx dp + mIx n ≤ ld))
def chC (h : mHp) (a d : Nat) (sp dp n : Int32) : Bool := (chL h a && chL h d) && cpOk (mLen h a) (mLen h d) sp dp n
/-- a store breaks a long that lies over its place -/
def mFix (L : List Value) (i : Nat) : List Value := match i with
  | 0 => L
  | j + 1 => (match L.getD j (.retAddr 0) with
    | .long _ => L.set j (.retAddr 0)
    | .double _ => L.set j (.retAddr 0)
    | _ => L)
def mGet (a : Nat) (h : mHp) (r k : Nat) (ty : FieldType) : Value := match ty with
  | .long => .long (hJ h r k)
  | .object _ => .ref (hR h r k)
  | .array _ => .ref (hR h r k)
  | _ => .int (hI h r k)
/-- is that field final -/
def mFin (a b : Nat) : Bool := match vwCl[a]? with
  | some q => (q.2.1 b).2.2.2
  | none => true
def mCond (cnd : ClassFile.Cond) (x y : Int32) (t f : Nat) : Nat := match cnd with
  | .eq => if x = y then t else f
  | .ne => if x = y then f else t
  | .lt => if x < y then t else f
  | .ge => if y ≤ x then t else f
  | .gt => if y < x then t else f
  | .le => if x ≤ y then t else f
def mLkp (pc : Nat) : List (Int × Int) → Int → Int32 → Nat
  | [], d, _ => mTg pc d
  | (v, o) :: os, d, x => if v = x.toInt then mTg pc o else mLkp pc os d x
def mTab (pc : Nat) : List Int → Int → Int → Int32 → Nat
  | [], _, d, _ => mTg pc d
  | o :: os, lo, d, x => if x = Int32.ofInt lo then mTg pc o else mTab pc os (lo + 1) d x
def mLd (ok : Bool) (pc : Nat) (L st : List Value) (h : mHp) (i : Nat) (cat : Nat) : mC := match cat, L.getD i (.retAddr 0) with
  | 0, .int x => (ok, pc, L, .int x :: st, h)
  | 1, .ref x => (ok, pc, L, .ref x :: st, h)
  | 2, .long x => (ok, pc, L, .long x :: st, h)
  | _, _ => mBad h
def mSto (ok : Bool) (pc nL : Nat) (L st : List Value) (h : mHp) (i : Nat) (cat : Nat) : mC := match cat, st with
  | 0, .int x :: r => (ok, pc, (mFix L i).set i (.int x), r, h)
  | 1, .ref x :: r => (ok, pc, (mFix L i).set i (.ref x), r, h)
  | 2, .long x :: r => (ok, pc, ((mFix L i).set i (.long x)).set (i + 1) (.retAddr 0), r, h)
  | _, _ => mBad h
/-- a value into a field of such a type -/
def mPutB (ty : FieldType) (v : Value) (ok : Bool) (pc : Nat) (L t : List Value) (h : mHp) (r a b : Nat) : mC := match ty, v with
    | .int, .int x => (chO h r a && ok, pc + 3, L, t, putI h r b x)
    | .boolean, .int x => (mFit .boolean x && (chO h r a && ok), pc + 3, L, t, putI h r b x)
    | .char, .int x => (mFit .char x && (chO h r a && ok), pc + 3, L, t, putI h r b x)
    | .long, .long x => (chO h r a && ok, pc + 3, L, t, putJ h r b x)
    | .object _, .ref x => (chO h r a && ok, pc + 3, L, t, putR h r b x)
    | .array _, .ref x => (chO h r a && ok, pc + 3, L, t, putR h r b x)
    | _, _ => mBad h
/-- one row of code; nL: how many locals, fin: may final fields be written, nM, wM: how many cells and slots there may be; pc, the row's two numbers; all well so far, locals, stack, heap -/
abbrev mFn : Type := Nat → Bool → Nat → Nat → Nat → Nat → Nat → Bool → List Value → List Value → mHp → mC
def c_bad : mFn := fun _ _ _ _ _ _ _ _ _ _ h => mBad h
def c_iconst (n : Int) : mFn := fun nL fin nM wM pc a b ok L st h => (ok, pc + 1, L, .int (Int32.ofInt n) :: st, h)
def c_bipush (n : Int) : mFn := fun nL fin nM wM pc a b ok L st h => (ok, pc + 2, L, .int (Int8.ofInt n).toInt32 :: st, h)
def c_sipush (n : Int) : mFn := fun nL fin nM wM pc a b ok L st h => (ok, pc + 3, L, .int (Int16.ofInt n).toInt32 :: st, h)
def c_lconst (n : Fin 2) : mFn := fun nL fin nM wM pc a b ok L st h => (ok, pc + 1, L, .long (Int64.ofNat (n : Nat)) :: st, h)
def c_ldc  : mFn := fun nL fin nM wM pc a b ok L st h => if b = 0 then (ok, pc + 2, L, .int (Int32.ofNat a) :: st, h) else (ok, pc + 2, L, .ref (900000 + a) :: st, h)
def c_ldc_w  : mFn := fun nL fin nM wM pc a b ok L st h => (ok, pc + 3, L, .int (Int32.ofNat a) :: st, h)
def c_ldc2_w  : mFn := fun nL fin nM wM pc a b ok L st h => (ok, pc + 3, L, .long (Int64.ofNat a) :: st, h)
def c_iload (i : Nat) : mFn := fun nL fin nM wM pc a b ok L st h => mLd ok (pc + 2) L st h i 0
def c_iload_n (i : Fin 4) : mFn := fun nL fin nM wM pc a b ok L st h => mLd ok (pc + 1) L st h i 0
def c_aload (i : Nat) : mFn := fun nL fin nM wM pc a b ok L st h => mLd ok (pc + 2) L st h i 1
def c_aload_n (i : Fin 4) : mFn := fun nL fin nM wM pc a b ok L st h => mLd ok (pc + 1) L st h i 1
def c_lload (i : Nat) : mFn := fun nL fin nM wM pc a b ok L st h => mLd ok (pc + 2) L st h i 2
def c_lload_n (i : Fin 4) : mFn := fun nL fin nM wM pc a b ok L st h => mLd ok (pc + 1) L st h i 2
def c_istore (i : Nat) : mFn := fun nL fin nM wM pc a b ok L st h => mSto ok (pc + 2) nL L st h i 0
def c_istore_n (i : Fin 4) : mFn := fun nL fin nM wM pc a b ok L st h => mSto ok (pc + 1) nL L st h i 0
def c_astore (i : Nat) : mFn := fun nL fin nM wM pc a b ok L st h => mSto ok (pc + 2) nL L st h i 1
def c_astore_n (i : Fin 4) : mFn := fun nL fin nM wM pc a b ok L st h => mSto ok (pc + 1) nL L st h i 1
def c_lstore (i : Nat) : mFn := fun nL fin nM wM pc a b ok L st h => mSto ok (pc + 2) nL L st h i 2
def c_lstore_n (i : Fin 4) : mFn := fun nL fin nM wM pc a b ok L st h => mSto ok (pc + 1) nL L st h i 2
def c_iinc (i : Nat) (n : Int) : mFn := fun nL fin nM wM pc a b ok L st h => (match L.getD i (.retAddr 0) with
      | .int x => (ok, pc + 3, (mFix L i).set i (.int (x + Int32.ofInt n)), st, h)
      | _ => mBad h)
def c_dup  : mFn := fun nL fin nM wM pc a b ok L st h => (match st with
    | .int x :: r => (ok, pc + 1, L, .int x :: .int x :: r, h)
    | .ref x :: r => (ok, pc + 1, L, .ref x :: .ref x :: r, h)
    | _ => mBad h)
def c_pop  : mFn := fun nL fin nM wM pc a b ok L st h => (match st with
    | .int _ :: r => (ok, pc + 1, L, r, h)
    | .ref _ :: r => (ok, pc + 1, L, r, h)
    | _ => mBad h)
def c_dup2  : mFn := fun nL fin nM wM pc a b ok L st h => (match st with
    | .int x :: .ref y :: r => (ok, pc + 1, L, .int x :: .ref y :: .int x :: .ref y :: r, h)
    | _ => mBad h)
def c_iadd  : mFn := fun nL fin nM wM pc a b ok L st h => mU2 st (mBad h) (fun x y r => (ok, pc + 1, L, .int (x + y) :: r, h))
def c_isub  : mFn := fun nL fin nM wM pc a b ok L st h => mU2 st (mBad h) (fun x y r => (ok, pc + 1, L, .int (x - y) :: r, h))
def c_imul  : mFn := fun nL fin nM wM pc a b ok L st h => mU2 st (mBad h) (fun x y r => (ok, pc + 1, L, .int (x * y) :: r, h))
def c_idiv  : mFn := fun nL fin nM wM pc a b ok L st h => mU2 st (mBad h) (fun x y r => (decide (¬ y = 0) && ok, pc + 1, L, .int (x / y) :: r, h))
def c_irem  : mFn := fun nL fin nM wM pc a b ok L st h => mU2 st (mBad h) (fun x y r => (decide (¬ y = 0) && ok, pc + 1, L, .int (x - x / y * y) :: r, h))
def c_iand  : mFn := fun nL fin nM wM pc a b ok L st h => mU2 st (mBad h) (fun x y r => (ok, pc + 1, L, .int (x &&& y) :: r, h))
def c_ior  : mFn := fun nL fin nM wM pc a b ok L st h => mU2 st (mBad h) (fun x y r => (ok, pc + 1, L, .int (x ||| y) :: r, h))
def c_ixor  : mFn := fun nL fin nM wM pc a b ok L st h => mU2 st (mBad h) (fun x y r => (ok, pc + 1, L, .int (x ^^^ y) :: r, h))
def c_ishl  : mFn := fun nL fin nM wM pc a b ok L st h => mU2 st (mBad h) (fun x y r => (ok, pc + 1, L, .int (x <<< (y &&& 31)) :: r, h))
def c_ishr  : mFn := fun nL fin nM wM pc a b ok L st h => mU2 st (mBad h) (fun x y r => (ok, pc + 1, L, .int (x >>> (y &&& 31)) :: r, h))
def c_iushr  : mFn := fun nL fin nM wM pc a b ok L st h => mU2 st (mBad h) (fun x y r => (ok, pc + 1, L, .int (x.toUInt32 >>> (y.toUInt32 &&& Int32.toUInt32 31)).toInt32 :: r, h))
def c_ladd  : mFn := fun nL fin nM wM pc a b ok L st h => mUll st (mBad h) (fun x y r => (ok, pc + 1, L, .long (x + y) :: r, h))
def c_lmul  : mFn := fun nL fin nM wM pc a b ok L st h => mUll st (mBad h) (fun x y r => (ok, pc + 1, L, .long (x * y) :: r, h))
def c_lor  : mFn := fun nL fin nM wM pc a b ok L st h => mUll st (mBad h) (fun x y r => (ok, pc + 1, L, .long (x ||| y) :: r, h))
def c_lcmp  : mFn := fun nL fin nM wM pc a b ok L st h => mUll st (mBad h) (fun x y r => (ok, pc + 1, L, .int (lg_cmp x y) :: r, h))
def c_lshl  : mFn := fun nL fin nM wM pc a b ok L st h => mU1 st (mBad h) (fun y r => mUl r (mBad h) (fun x r => (ok, pc + 1, L, .long (x <<< (y.toInt64 &&& 63)) :: r, h)))
def c_i2l  : mFn := fun nL fin nM wM pc a b ok L st h => mU1 st (mBad h) (fun x r => (ok, pc + 1, L, .long x.toInt64 :: r, h))
def c_i2b  : mFn := fun nL fin nM wM pc a b ok L st h => mU1 st (mBad h) (fun x r => (ok, pc + 1, L, .int x.toInt8.toInt32 :: r, h))
def c_i2c  : mFn := fun nL fin nM wM pc a b ok L st h => mU1 st (mBad h) (fun x r => (ok, pc + 1, L, .int (x.toUInt32 % 65536).toInt32 :: r, h))
def c_goto (off : Int) : mFn := fun nL fin nM wM pc a b ok L st h => (ok, mTg pc off, L, st, h)
def c_if_icmp (cnd : ClassFile.Cond) (off : Int) : mFn := fun nL fin nM wM pc a b ok L st h => mU2 st (mBad h) (fun x y r => (ok, mCond cnd x y (mTg pc off) (pc + 3), L, r, h))
def c_ifCond (cnd : ClassFile.Cond) (off : Int) : mFn := fun nL fin nM wM pc a b ok L st h => mU1 st (mBad h) (fun x r => (ok, mCond cnd x 0 (mTg pc off) (pc + 3), L, r, h))
def c_tableswitch (d lo hi : Int) (os : Array Int) : mFn := fun nL fin nM wM pc a b ok L st h => mU1 st (mBad h) (fun x r => (ok, mTab pc os.toList lo d x, L, r, h))
def c_lookupswitch (d : Int) (ps : Array (Int × Int)) : mFn := fun nL fin nM wM pc a b ok L st h => mU1 st (mBad h) (fun x r => (ok, mLkp pc ps.toList d x, L, r, h))
def c_getfield  : mFn := fun nL fin nM wM pc a b ok L st h => mUr st (mBad h) (fun r t => (chO h r a && ok, pc + 3, L, mGet a h r b (mTy a b) :: t, h))
def c_putfield  : mFn := fun nL fin nM wM pc a b ok L st h => mUvr st (mBad h) (fun v r t => mPutB (mTy a b) v ok pc L t h r a b)
def c_iaload  : mFn := fun nL fin nM wM pc a b ok L st h => mUir st (mBad h) (fun i r t => (chI h r i && ok, pc + 1, L, .int (hI h r (mIx i)) :: t, h))
def c_baload  : mFn := fun nL fin nM wM pc a b ok L st h => mUir st (mBad h) (fun i r t => (chB h r i && ok, pc + 1, L, .int (hI h r (mIx i)) :: t, h))
def c_laload  : mFn := fun nL fin nM wM pc a b ok L st h => mUir st (mBad h) (fun i r t => (chJ h r i && ok, pc + 1, L, .long (hJ h r (mIx i)) :: t, h))
def c_aaload  : mFn := fun nL fin nM wM pc a b ok L st h => mUir st (mBad h) (fun i r t => (chR h r i && ok, pc + 1, L, .ref (hR h r (mIx i)) :: t, h))
def c_iastore  : mFn := fun nL fin nM wM pc a b ok L st h => mUxir st (mBad h) (fun v i r t => (match v with
      | .int x => (chI h r i && ok, pc + 1, L, t, putI h r (mIx i) x)
      | _ => mBad h))
def c_bastore  : mFn := fun nL fin nM wM pc a b ok L st h => mUxir st (mBad h) (fun v i r t => (match v with
      | .int x => (chB h r i && ok, pc + 1, L, t, putI h r (mIx i) (mNar h r x))
      | _ => mBad h))
def c_lastore  : mFn := fun nL fin nM wM pc a b ok L st h => mUxir st (mBad h) (fun v i r t => (match v with
      | .long x => (chJ h r i && ok, pc + 1, L, t, putJ h r (mIx i) x)
      | _ => mBad h))
def c_arraylength  : mFn := fun nL fin nM wM pc a b ok L st h => mUr st (mBad h) (fun r t => (chL h r && ok, pc + 1, L, .int (Int32.ofNat (mLen h r)) :: t, h))
def c_invokestatic  : mFn := fun nL fin nM wM pc a b ok L st h => cond (Nat.beq b 7777) (match st with
    | [.int n, .int dp, .ref d, .int sp, .ref a] => (chC h a d sp dp n && ok, pc + 3, L, [], cpyI h a d sp dp n)
    | _ => mBad h) (mBad h)
def c_invokespecial  : mFn := fun nL fin nM wM pc a b ok L st h => cond (Nat.beq b 8888) (match st with
    | [.ref r] => (Nat.blt r (hN h) && ok, pc + 3, L, [], h)
    | _ => mBad h) (mBad h)
def c_newarray (ty : ArrayType) : mFn := fun nL fin nM wM pc a b ok L st h => mU1 st (mBad h) (fun n r => (!(decide (n < 0)) && (decide (mIx n ≤ 60000000) && (decide (hN h + 1 ≤ nM) && (decide (hW h + mIx n ≤ wM) && ok))), pc + 2, L, .ref (hN h) :: r, newA h (newarray.typeOf ty) (mIx n)))
def c_new  : mFn := fun nL fin nM wM pc a b ok L st h => (decide (hN h + 1 ≤ nM) && (decide (hW h + mNf a ≤ wM) && ok), pc + 3, L, .ref (hN h) :: st, newO h a (mNf a))
def c_multianewarray (d : Nat) : mFn := fun nL fin nM wM pc a b ok L st h => mU2 st (mBad h) (fun n k r => (decide (d = 2) && (!(decide (n < 0)) && (!(decide (k < 0)) && (decide (mIx n ≤ 60000000) && (decide (mIx k ≤ 60000000) && (decide (hN h + 1 + mIx n ≤ nM) && (decide (hW h + mIx n + mIx n * mIx k ≤ wM) && ok)))))), pc + 4, L, .ref (hN h) :: r, newM h (mIx n) (mIx k)))
def mDis (ins : Instr) : mFn := match ins with
  | .iconst n => c_iconst n
  | .bipush n => c_bipush n
  | .sipush n => c_sipush n
  | .lconst n => c_lconst n
  | .ldc _ => c_ldc
  | .ldc_w _ => c_ldc_w
  | .ldc2_w _ => c_ldc2_w
  | .iload i => c_iload i
  | .iload_n i => c_iload_n i
  | .aload i => c_aload i
  | .aload_n i => c_aload_n i
  | .lload i => c_lload i
  | .lload_n i => c_lload_n i
  | .istore i => c_istore i
  | .istore_n i => c_istore_n i
  | .astore i => c_astore i
  | .astore_n i => c_astore_n i
  | .lstore i => c_lstore i
  | .lstore_n i => c_lstore_n i
  | .iinc i n => c_iinc i n
  | .dup => c_dup
  | .pop => c_pop
  | .dup2 => c_dup2
  | .iadd => c_iadd
  | .isub => c_isub
  | .imul => c_imul
  | .idiv => c_idiv
  | .irem => c_irem
  | .iand => c_iand
  | .ior => c_ior
  | .ixor => c_ixor
  | .ishl => c_ishl
  | .ishr => c_ishr
  | .iushr => c_iushr
  | .ladd => c_ladd
  | .lmul => c_lmul
  | .lor => c_lor
  | .lcmp => c_lcmp
  | .lshl => c_lshl
  | .i2l => c_i2l
  | .i2b => c_i2b
  | .i2c => c_i2c
  | .goto off => c_goto off
  | .if_icmp cnd off => c_if_icmp cnd off
  | .ifCond cnd off => c_ifCond cnd off
  | .tableswitch d lo hi os => c_tableswitch d lo hi os
  | .lookupswitch d ps => c_lookupswitch d ps
  | .getfield _ => c_getfield
  | .putfield _ => c_putfield
  | .iaload => c_iaload
  | .baload => c_baload
  | .laload => c_laload
  | .aaload => c_aaload
  | .iastore => c_iastore
  | .bastore => c_bastore
  | .lastore => c_lastore
  | .arraylength => c_arraylength
  | .invokestatic _ => c_invokestatic
  | .invokespecial _ => c_invokespecial
  | .newarray ty => c_newarray ty
  | .new _ => c_new
  | .multianewarray _ d => c_multianewarray d
  | _ => c_bad
def mst (nL : Nat) (fin : Bool) (nM wM : Nat) (q : mI) (c : mC) : mC := mDis q.2.1 nL fin nM wM q.1 q.2.2.2.1 q.2.2.2.2 c.1 c.2.2.1 c.2.2.2.1 c.2.2.2.2
/-- a stretch of rows, one behind another -/
def mgo (nL : Nat) (fin : Bool) (nM wM : Nat) : List mI → mC → mC
  | [], c => c
  | q :: qs, c => mgo nL fin nM wM qs (cond (Nat.beq c.2.1 q.1) (mst nL fin nM wM q c) (mBad c.2.2.2.2))
end
section
/-! THAT THE MACHINE DOES A STEP of the small machine. -/
def mIl (ins : Instr) : Option Nat := match ins with
  | .iconst _ => some 1
  | .bipush _ => some 2
  | .sipush _ => some 3
  | .lconst _ => some 1
  | .ldc _ => some 2
  | .ldc_w _ => some 3
  | .ldc2_w _ => some 3
  | .iload _ => some 2
  | .aload _ => some 2
  | .lload _ => some 2
  | .istore _ => some 2
  | .astore _ => some 2
  | .lstore _ => some 2
  | .iinc _ _ => some 3
  | .goto _ => some 3
  | .if_icmp _ _ => some 3
  | .ifCond _ _ => some 3
  | .getfield _ => some 3
  | .putfield _ => some 3
  | .invokestatic _ => some 3
  | .invokevirtual _ => some 3
  | .invokespecial _ => some 3
  | .newarray _ => some 2
  | .new _ => some 3
  | .multianewarray _ _ => some 4
  | .tableswitch _ _ _ _ => none
  | .lookupswitch _ _ => none
  | _ => some 1
def mLok (q : mI) : Bool := match mIl q.2.1 with
  | some n => q.2.2.1 == n
  | none => true
/-- what can be seen of a row ahead of its run -/
def mSta (nL : Nat) (fin : Bool) (q : mI) : Bool := match q with
  | (pc, ins, _, a, b) => match ins with
    | .istore i => decide (i < nL)
    | .istore_n i => decide ((i : Nat) < nL)
    | .astore i => decide (i < nL)
    | .astore_n i => decide ((i : Nat) < nL)
    | .lstore i => decide (i + 1 < nL)
    | .lstore_n i => decide ((i : Nat) + 1 < nL)
    | .iinc i _ => decide (i < nL)
    | .goto off => mTk pc off
    | .if_icmp _ off => mTk pc off
    | .ifCond _ off => mTk pc off
    | .tableswitch d lo hi os => (d :: os.toList).all (fun o => mTk pc o) && (decide (hi - lo + 1 = (os.toList.length : Int)) && decide (-2147483648 ≤ lo ∧ hi ≤ 2147483647))
    | .lookupswitch d ps => (d :: ps.toList.map (fun q => q.2)).all (fun o => mTk pc o) && (ps.toList.zip (ps.toList.drop 1)).all (fun (a, next) => a.1 < next.1)
    | .getfield _ => decide (b < mNf a)
    | .putfield _ => decide (b < mNf a) && (!(mFin a b) || fin)
    | _ => true
/-- what the words say of a row's index -/
def mEnt (own : String) (q : mI) : Prop := match q with
  | (_, ins, _, a, b) => match ins with
    | .ldc i => if b = 0 then Cond.constant own i (Int32.ofNat a) ∈ mTb else own = RX4 ∧ ∃ tx, mSt[a]? = some (i, tx)
    | .ldc_w i => Cond.constant own i (Int32.ofNat a) ∈ mTb
    | .ldc2_w i => Cond.constantLong own i (Int64.ofNat a) ∈ mTb
    | .getfield i => ∃ r : vw_C, vwCl[a]? = some r ∧ Cond.fieldLink own i (r.2.1 b).1 (r.2.1 b).2.1 (r.2.1 b).2.2.1 ∈ mTb
    | .putfield i => ∃ r : vw_C, vwCl[a]? = some r ∧ Cond.fieldLink own i (r.2.1 b).1 (r.2.1 b).2.1 (r.2.1 b).2.2.1 ∈ mTb ∧ (mFin a b = true → (r.2.1 b).1 = own)
    | .new i => ∃ r : vw_C, vwCl[a]? = some r ∧ Cond.classLink own i r.1 ∈ mTb ∧ Cond.instantiable r.1 r.2.2 ∈ mTb ∧ Cond.initialized r.1 ∈ mTb
    | .newarray ty => Cond.arrayClass (newarray.typeOf ty) ∈ mTb ∧ (newarray.typeOf ty = .int ∨ newarray.typeOf ty = .byte ∨ newarray.typeOf ty = .boolean ∨ newarray.typeOf ty = .long)
    | .multianewarray i _ => Cond.classLink own i "[[I" ∈ mTb
    | .invokespecial i => b = 8888 → Cond.methodLink own i objectInit ∈ mTb
    | .invokestatic i => b = 7777 → Cond.methodLink own i arraycopyName ∈ mTb
    | _ => True
theorem mCl_ty {a : Nat} {r : vw_C} (h : vwCl[a]? = some r) : ∀ k, k < r.2.2 → parseFieldDescriptor (r.2.1 k).2.2.1 = some (mTy a k) := by
  match a, h with
  | 0, h => cases h; exact tyX0_ok
  | 1, h => cases h; exact tyX1_ok
  | 2, h => cases h; exact tyX2_ok
  | 3, h => cases h; exact tyX3_ok
  | 4, h => cases h; exact tyX4_ok
  | 5, h => cases h; exact tyX5_ok
  | 6, h => cases h; exact tyX6_ok
  | 7, h => cases h; exact tyX7_ok
  | 8, h => cases h; exact tyX8_ok
  | 9, h => cases h; exact tyX9_ok
  | 10, h => cases h; exact tyX10_ok
  | 11, h => cases h; exact tyX11_ok
  | 12, h => cases h; exact tyX12_ok
  | n + 13, h => cases h
theorem mCl_nm {a : Nat} {r : vw_C} (h : vwCl[a]? = some r) : ∀ x, x < r.2.2 → ∀ y, y < r.2.2 → x ≠ y → (r.2.1 x).2.1 ≠ (r.2.1 y).2.1 := by
  match a, h with
  | 0, h => cases h; exact nmX0
  | 1, h => cases h; exact nmX1
  | 2, h => cases h; exact nmX2
  | 3, h => cases h; exact nmX3
  | 4, h => cases h; exact nmX4
  | 5, h => cases h; exact nmX5
  | 6, h => cases h; exact nmX6
  | 7, h => cases h; exact nmX7
  | 8, h => cases h; exact nmX8
  | 9, h => cases h; exact nmX9
  | 10, h => cases h; exact nmX10
  | 11, h => cases h; exact nmX11
  | 12, h => cases h; exact nmX12
  | n + 13, h => cases h
theorem mCl_nf {a : Nat} {r : vw_C} (h : vwCl[a]? = some r) : mNf a = r.2.2 := by
  match a, h with
  | 0, h => cases h; rfl
  | 1, h => cases h; rfl
  | 2, h => cases h; rfl
  | 3, h => cases h; rfl
  | 4, h => cases h; rfl
  | 5, h => cases h; rfl
  | 6, h => cases h; rfl
  | 7, h => cases h; rfl
  | 8, h => cases h; rfl
  | 9, h => cases h; rfl
  | 10, h => cases h; rfl
  | 11, h => cases h; rfl
  | 12, h => cases h; rfl
  | n + 13, h => cases h
theorem mCl_fin {a b : Nat} {r : vw_C} (h : vwCl[a]? = some r) : mFin a b = (r.2.1 b).2.2.2 := by
  unfold mFin
  rw [h]
theorem mU1_ok {st : List Value} {bad : mC} {f : Int32 → List Value → mC} (h : (mU1 st bad f).1 = true) (hb : bad.1 = false) : ∃ x r, st = .int x :: r := by
  unfold mU1 at h
  split at h
  · exact ⟨_, _, rfl⟩
  · rw [hb] at h; cases h
theorem mU2_ok {st : List Value} {bad : mC} {f : Int32 → Int32 → List Value → mC} (h : (mU2 st bad f).1 = true) (hb : bad.1 = false) : ∃ y x r, st = .int y :: .int x :: r := by
  unfold mU2 at h
  split at h
  · exact ⟨_, _, _, rfl⟩
  · rw [hb] at h; cases h
theorem mUl_ok {st : List Value} {bad : mC} {f : Int64 → List Value → mC} (h : (mUl st bad f).1 = true) (hb : bad.1 = false) : ∃ x r, st = .long x :: r := by
  unfold mUl at h
  split at h
  · exact ⟨_, _, rfl⟩
  · rw [hb] at h; cases h
theorem mUll_ok {st : List Value} {bad : mC} {f : Int64 → Int64 → List Value → mC} (h : (mUll st bad f).1 = true) (hb : bad.1 = false) : ∃ y x r, st = .long y :: .long x :: r := by
  unfold mUll at h
  split at h
  · exact ⟨_, _, _, rfl⟩
  · rw [hb] at h; cases h
theorem mUr_ok {st : List Value} {bad : mC} {f : Nat → List Value → mC} (h : (mUr st bad f).1 = true) (hb : bad.1 = false) : ∃ x r, st = .ref x :: r := by
  unfold mUr at h
  split at h
  · exact ⟨_, _, rfl⟩
  · rw [hb] at h; cases h
theorem mUir_ok {st : List Value} {bad : mC} {f : Int32 → Nat → List Value → mC} (h : (mUir st bad f).1 = true) (hb : bad.1 = false) : ∃ i a r, st = .int i :: .ref a :: r := by
  unfold mUir at h
  split at h
  · exact ⟨_, _, _, rfl⟩
  · rw [hb] at h; cases h
theorem mUxir_ok {st : List Value} {bad : mC} {f : Value → Int32 → Nat → List Value → mC} (h : (mUxir st bad f).1 = true) (hb : bad.1 = false) : ∃ x i a r, st = x :: .int i :: .ref a :: r := by
  unfold mUxir at h
  split at h
  · exact ⟨_, _, _, _, rfl⟩
  · rw [hb] at h; cases h
theorem mUvr_ok {st : List Value} {bad : mC} {f : Value → Nat → List Value → mC} (h : (mUvr st bad f).1 = true) (hb : bad.1 = false) : ∃ v a r, st = v :: .ref a :: r := by
  unfold mUvr at h
  split at h
  · exact ⟨_, _, _, rfl⟩
  · rw [hb] at h; cases h
theorem mUv_ok {st : List Value} {bad : mC} {f : Value → List Value → mC} (h : (mUv st bad f).1 = true) (hb : bad.1 = false) : ∃ v r, st = v :: r := by
  unfold mUv at h
  split at h
  · exact ⟨_, _, rfl⟩
  · rw [hb] at h; cases h
theorem mUvv_ok {st : List Value} {bad : mC} {f : Value → Value → List Value → mC} (h : (mUvv st bad f).1 = true) (hb : bad.1 = false) : ∃ v w r, st = v :: w :: r := by
  unfold mUvv at h
  split at h
  · exact ⟨_, _, _, rfl⟩
  · rw [hb] at h; cases h
theorem mUc_ok {st : List Value} {bad : mC} {f : Int32 → Int32 → Nat → Int32 → Nat → List Value → mC} (h : (mUc st bad f).1 = true) (hb : bad.1 = false) : ∃ n dp d sp a r, st = .int n :: .int dp :: .ref d :: .int sp :: .ref a :: r := by
  unfold mUc at h
  split at h
  · exact ⟨_, _, _, _, _, _, rfl⟩
  · rw [hb] at h; cases h
/-! addresses -/
theorem mCv_ref {G : mG} {r : Nat} (h : r < 900000) : mCv G (.ref r) = .ref (G.1 + r) := by
  show va_rf (mRo G r) = _
  unfold mRo mAd NUL
  rw [if_neg (by omega), if_pos h]
  rfl
theorem mCv_cat {G : mG} (v : Value) : (mCv G v).category = v.category := by
  cases v with
  | ref i =>
    show (va_rf (mRo G i)).category = 1
    unfold mRo
    split <;> rfl
  | _ => rfl
theorem mCv_get {G : mG} {h : mHp} {r k a : Nat} {ty : FieldType} : mCv G (mGet a h r k ty) = mFv G h r k ty := by
  cases ty <;> rfl
theorem mIn_in {i : Int32} {n : Nat} (h : mIn i n = true) : vp_in i n := by
  unfold mIn at h
  simp only [Bool.and_eq_true, Bool.not_eq_true', decide_eq_true_eq, decide_eq_false_iff_not] at h
  intro z
  rcases z with z | z
  · exact h.1 z
  · omega
theorem chO_ok {h : mHp} {r c : Nat} (z : chO h r c = true) : r < hN h ∧ hS h r = .inl c := by
  unfold chO kAO at z
  rw [Bool.and_eq_true] at z
  refine ⟨Nat.blt_eq.mp z.1, ?_⟩
  have z2 := z.2
  split at z2
  · rename_i x e
    rw [e, Nat.eq_of_beq_eq_true z2]
  · cases z2
theorem chI_ok {h : mHp} {r : Nat} {i : Int32} (z : chI h r i = true) : r < hN h ∧ ∃ n, hS h r = .inr (.int, n) ∧ vp_in i n := by
  unfold chI kAI at z
  rw [Bool.and_eq_true] at z
  refine ⟨Nat.blt_eq.mp z.1, ?_⟩
  have z2 := z.2
  split at z2
  · rename_i n e
    exact ⟨n, e, mIn_in z2⟩
  · cases z2
theorem chB_ok {h : mHp} {r : Nat} {i : Int32} (z : chB h r i = true) : r < hN h ∧ ∃ n, (hS h r = .inr (.byte, n) ∨ hS h r = .inr (.boolean, n)) ∧ vp_in i n := by
  unfold chB kAB at z
  rw [Bool.and_eq_true] at z
  refine ⟨Nat.blt_eq.mp z.1, ?_⟩
  have z2 := z.2
  split at z2
  · rename_i n e
    exact ⟨n, Or.inl e, mIn_in z2⟩
  · rename_i n e
    exact ⟨n, Or.inr e, mIn_in z2⟩
  · cases z2
theorem chJ_ok {h : mHp} {r : Nat} {i : Int32} (z : chJ h r i = true) : r < hN h ∧ ∃ n, hS h r = .inr (.long, n) ∧ vp_in i n := by
  unfold chJ kAJ at z
  rw [Bool.and_eq_true] at z
  refine ⟨Nat.blt_eq.mp z.1, ?_⟩
  have z2 := z.2
  split at z2
  · rename_i n e
    exact ⟨n, e, mIn_in z2⟩
  · cases z2
theorem chR_ok {h : mHp} {r : Nat} {i : Int32} (z : chR h r i = true) : r < hN h ∧ ∃ n, hS h r = .inr (.array .int, n) ∧ vp_in i n := by
  unfold chR kAR at z
  rw [Bool.and_eq_true] at z
  refine ⟨Nat.blt_eq.mp z.1, ?_⟩
  have z2 := z.2
  split at z2
  · rename_i n e
    exact ⟨n, e, mIn_in z2⟩
  · cases z2
theorem chL_ok {h : mHp} {r : Nat} (z : chL h r = true) : r < hN h ∧ hS h r = .inr (.int, mLen h r) := by
  unfold chL kAL at z
  rw [Bool.and_eq_true] at z
  refine ⟨Nat.blt_eq.mp z.1, ?_⟩
  have z2 := z.2
  unfold mLen kLen
  split at z2
  · rename_i n e
    rw [e]
  · cases z2
theorem mEl_O {G : mG} {h : mHp} {r c : Nat} (e : hS h r = .inl c) : mEl G h r = .inr (c, (List.range (mNf c)).map (fun k => mFv G h r k (mTy c k))) := by
  unfold mEl
  rw [e]
theorem mEl_A {G : mG} {h : mHp} {r n : Nat} {ty : FieldType} (e : hS h r = .inr (ty, n)) : mEl G h r = .inl (G.2.2.2.2 ty, mAr G h r n ty) := by
  unfold mEl
  rw [e]
theorem mFs_get {G : mG} {h : mHp} {r c k : Nat} (hk : k < mNf c) : ((List.range (mNf c)).map (fun k => mFv G h r k (mTy c k)))[k]? = some (mFv G h r k (mTy c k)) := by
  rw [List.getElem?_map, List.getElem?_range hk]
  rfl
/-! the locals -/
def mLv (G : mG) (L : List Value) : List (Nat × Value) := (List.range L.length).filterMap (fun i => match L.getD i (.retAddr 0) with
  | .retAddr _ => none
  | v => some (i, mCv G v))
theorem mLv_mem {G : mG} {L : List Value} {q : Nat × Value} : q ∈ mLv G L ↔ ∃ v, q.1 < L.length ∧ L.getD q.1 (.retAddr 0) = v ∧ (∀ n, v ≠ .retAddr n) ∧ q.2 = mCv G v := by
  unfold mLv
  rw [List.mem_filterMap]
  constructor
  · rintro ⟨i, hi, e⟩
    rw [List.mem_range] at hi
    cases hv : L.getD i (.retAddr 0) with
    | retAddr n => rw [hv] at e; cases e
    | _ => rw [hv] at e; cases e; exact ⟨_, hi, hv, (fun n z => by cases z), rfl⟩
  · rintro ⟨v, hi, hv, hn, e⟩
    refine ⟨q.1, List.mem_range.mpr hi, ?_⟩
    rw [hv]
    cases v with
    | retAddr n => exact absurd rfl (hn n)
    | _ => exact congrArg some (Prod.ext rfl e.symm)
theorem mLv_at {G : mG} {L : List Value} {ls : Array Slot} {nL i : Nat} {v : Value} (h : lv_has ls nL (mLv G L)) (hv : L.getD i (.retAddr 0) = v) (hn : ∀ n, v ≠ .retAddr n) : ls[i]? = some (.val (mCv G v)) := by
  have hi : i < L.length := by
    rcases Nat.lt_or_ge i L.length with z | z
    · exact z
    · rw [show L.getD i (.retAddr 0) = .retAddr 0 by simp [List.getD, List.getElem?_eq_none z]] at hv
      exact absurd hv.symm (hn 0)
  exact h.2.2 (i, mCv G v) (mLv_mem.mpr ⟨v, hi, hv, hn, rfl⟩)
theorem mFix_len (L : List Value) (i : Nat) : (mFix L i).length = L.length := by
  cases i with
  | zero => rfl
  | succ j =>
    unfold mFix
    simp only
    split <;> simp
theorem mFix_at {L : List Value} {i j : Nat} {w : Value} (h : (mFix L i).getD j (.retAddr 0) = w) (hw : ∀ n, w ≠ .retAddr n) : L.getD j (.retAddr 0) = w ∧ (j + 1 = i → w.category = 1) := by
  have gone : ∀ k, (L.set k (.retAddr 0)).getD j (.retAddr 0) = w → j ≠ k ∧ L.getD j (.retAddr 0) = w := by
    intro k hk
    by_cases e : j = k
    · exfalso
      subst e
      by_cases hl : j < L.length
      · rw [show (L.set j (.retAddr 0)).getD j (.retAddr 0) = .retAddr 0 by simp [List.getD, hl]] at hk
        exact hw 0 hk.symm
      · rw [show (L.set j (.retAddr 0)).getD j (.retAddr 0) = .retAddr 0 by simp [List.getD, List.getElem?_eq_none (show (L.set j (.retAddr 0)).length ≤ j by simp; omega)]] at hk
        exact hw 0 hk.symm
    · refine ⟨e, ?_⟩
      rw [← hk]
      simp [List.getD, List.getElem?_set_ne (Ne.symm e)]
  cases i with
  | zero => exact ⟨h, fun z => by omega⟩
  | succ k =>
    unfold mFix at h
    simp only at h
    split at h
    · obtain ⟨g1, g2⟩ := gone k h
      exact ⟨g2, fun z => by omega⟩
    · obtain ⟨g1, g2⟩ := gone k h
      exact ⟨g2, fun z => by omega⟩
    · rename_i h1 h2
      refine ⟨h, fun z => ?_⟩
      obtain rfl : j = k := by omega
      rw [h] at h1 h2
      cases w with
      | long x => exact absurd rfl (h1 x)
      | double x => exact absurd rfl (h2 x)
      | _ => rfl
theorem mLv_set {G : mG} {L : List Value} {ls : Array Slot} {nL i : Nat} {v : Value} (h : lv_has ls nL ((i, mCv G v) :: (mLv G L).filter (fun q => !(q.1 == i) && !(q.1 + 1 == i && q.2.category == 2)))) : lv_has ls nL (mLv G ((mFix L i).set i v)) := by
  refine ⟨h.1, h.2.1, fun q hq => ?_⟩
  obtain ⟨w, h1, h2, h3, h4⟩ := mLv_mem.mp hq
  rw [List.length_set] at h1
  by_cases e : q.1 = i
  · rw [e] at h2 h1
    have e2 : w = v := by
      rw [← h2]
      simp [List.getD, h1]
    have e3 : q = (i, mCv G v) := by
      obtain ⟨q1, q2⟩ := q
      simp only at e h4
      rw [e, h4, e2]
    rw [e3]
    exact h.2.2 _ List.mem_cons_self
  · have h5 : (mFix L i).getD q.1 (.retAddr 0) = w := by
      rw [← h2]
      simp [List.getD, List.getElem?_set_ne (Ne.symm e)]
    obtain ⟨h6, h7⟩ := mFix_at h5 h3
    rw [mFix_len] at h1
    refine h.2.2 q (List.mem_cons_of_mem _ (List.mem_filter.mpr ⟨mLv_mem.mpr ⟨w, h1, h6, h3, h4⟩, ?_⟩))
    simp only [Bool.and_eq_true, Bool.not_eq_true', beq_eq_false_iff_ne, Bool.and_eq_false_iff]
    refine ⟨e, ?_⟩
    by_cases e6 : q.1 + 1 = i
    · right
      rw [h4, mCv_cat, h7 e6]
      decide
    · left
      exact e6
theorem mLv_set2 {G : mG} {L : List Value} {ls : Array Slot} {nL i : Nat} {x : Int64} (h : lv_has ls nL ((i, Value.long x) :: (mLv G L).filter (fun q => !(q.1 == i) && (!(q.1 == i + 1) && !(q.1 + 1 == i && q.2.category == 2))))) : lv_has ls nL (mLv G (((mFix L i).set i (.long x)).set (i + 1) (.retAddr 0))) := by
  refine ⟨h.1, h.2.1, fun q hq => ?_⟩
  obtain ⟨w, h1, h2, h3, h4⟩ := mLv_mem.mp hq
  rw [List.length_set, List.length_set] at h1
  by_cases e0 : q.1 = i + 1
  · refine absurd ?_ (h3 0)
    rw [← h2, e0]
    rw [e0] at h1
    simp [List.getD, h1]
  by_cases e : q.1 = i
  · rw [e] at h2 h1
    have e2 : w = .long x := by
      rw [← h2]
      simp [List.getD, h1, List.getElem?_set_ne (show i + 1 ≠ i by omega)]
    have e3 : q = (i, Value.long x) := by
      obtain ⟨q1, q2⟩ := q
      simp only at e h4
      rw [e, h4, e2]
      rfl
    rw [e3]
    exact h.2.2 _ List.mem_cons_self
  · have h5 : (mFix L i).getD q.1 (.retAddr 0) = w := by
      rw [← h2]
      simp [List.getD, List.getElem?_set_ne (Ne.symm e), List.getElem?_set_ne (Ne.symm e0)]
    obtain ⟨h6, h7⟩ := mFix_at h5 h3
    rw [mFix_len] at h1
    refine h.2.2 q (List.mem_cons_of_mem _ (List.mem_filter.mpr ⟨mLv_mem.mpr ⟨w, h1, h6, h3, h4⟩, ?_⟩))
    simp only [Bool.and_eq_true, Bool.not_eq_true', beq_eq_false_iff_ne, Bool.and_eq_false_iff]
    refine ⟨e, e0, ?_⟩
    by_cases e6 : q.1 + 1 = i
    · right
      rw [h4, mCv_cat, h7 e6]
      decide
    · left
      exact e6
end
section
/-! THE JUDGEMENT, and that it goes back over a step. -/
def mAO (U : State) : Prop := (Cond.arrayOver (.array .int)).before #[] U = true
theorem mAO_use {A : Array Value} {U : State} (h : mAO U) : (Cond.arrayOver (.array .int)).before A U = true := h
theorem mAO_moved {u U : State} (hvm : u.vm.Alike U.vm) (h : mAO u) : mAO U := by
  have key : ∃ comp c k, u.vm.findClass (FieldType.array .int).toString = some comp ∧ (u.vm.classes.findIdx? fun (x : Class) => match x.kind with | .array component _ => component == comp | _ => false) = some c ∧ u.vm.classes[c]? = some k ∧ k.kind = .array comp (.array .int) ∧ u.vm.findClass ("[" ++ (FieldType.array .int).toString) = some c := by
    unfold mAO Cond.before Cond.holds at h
    simp only [Cond.value, beq_iff_eq] at h
    cases hc : u.vm.findClass (FieldType.array .int).toString with
    | none => simp [hc] at h
    | some comp =>
      simp only [hc, Option.bind_some, Option.bind_eq_some_iff, Option.map_eq_some_iff] at h
      obtain ⟨c, h2, k, h3, h4⟩ := h
      refine ⟨comp, c, k, rfl, h2, h3, ?_⟩
      cases hk : k.kind with
      | array cm ty =>
        rw [hk] at h4
        simp only [Bool.and_eq_true, decide_eq_true_eq] at h4
        have hc2 : cm = comp := by
          have h5 := Array.findIdx?_eq_some_iff_getElem.mp h2
          obtain ⟨hl, h6, -⟩ := h5
          have h7 : u.vm.classes[c]? = some u.vm.classes[c] := Array.getElem?_eq_getElem hl
          rw [h3] at h7
          have h8 : u.vm.classes[c] = k := (Option.some.inj h7).symm
          rw [h8, hk] at h6
          simpa using h6
        rw [hc2, h4.1]
        exact ⟨rfl, h4.2⟩
      | _ => rw [hk] at h4; cases h4
  obtain ⟨comp, c, k, h1, h2, h3, h4, h5⟩ := key
  obtain ⟨k', hk', he⟩ := hvm.2.2 _ _ h3
  have hi : (U.vm.classes.findIdx? fun (x : Class) => match x.kind with | .array component _ => component == comp | _ => false) = some c := by
    have hbe : U.vm.bare = u.vm.bare := by first | exact hvm.bare_eq | exact hvm.bare_eq.symm
    refine (va_idx_bare U.vm comp).symm.trans ?_
    rw [hbe]
    exact (va_idx_bare u.vm comp).trans h2
  have hkind : k'.kind = .array comp (.array .int) := by rw [he]; exact h4
  have f1 : U.vm.findClass (FieldType.array .int).toString = some comp := by rw [hvm.findClass]; exact h1
  have f2 : U.vm.findClass ("[" ++ (FieldType.array .int).toString) = some c := by rw [hvm.findClass]; exact h5
  unfold mAO Cond.before Cond.holds
  simp only [Cond.value]
  rw [f1, Option.bind_some]
  refine (congrArg (fun o : Option Nat => (o.bind (fun c => (U.vm.classes[c]?).map fun (k : Class) => match k.kind with | .array _ ty => decide (ty = FieldType.array .int) && decide (U.vm.findClass ("[" ++ (FieldType.array .int).toString) = some c) | _ => false) == some true)) hi).trans ?_
  simp [hk', hkind, f2]
def mX (G : mG) (U : State) (H : Heap) : Prop := (∀ (j : Nat) (q : Nat × String), mSt[j]? = some q → vk_R RX4 q.1 q.2 (G.2.1 j) U) ∧ vk_S 15 mStL mStB G.2.1 G.2.2.1 (mA G) U H ∧ (∀ q ∈ mNs, va_Nw (.methodLinkNest q.1 q.2.1 q.2.2.1 q.2.2.2) U) ∧ mAO U
/-- what stays the same over a method's body -/
def mCx (p : Program) (R : Room) (s : State) (m : MethodId) (args : Array Value) (meth : Method) (c : Code) (G : mG) (cc : ByteArray) (own : String) (nL : Nat) (fin : Bool) (nM wM n0 w0 : Nat) : Prop :=
  p.tables.exec = Jvm.exec ∧ c.code = cc ∧ c.maxLocals = nL ∧ s.vm.findClass own = some m.cls ∧ (∀ w ∈ mTb, w.before args s = true) ∧ va_K G.2.2.2.1 vwCl (mTys G) s ∧ s.heap.size = G.1 + n0 ∧ mX G s s.heap ∧ (nM ≤ n0 + R.cells ∧ wM ≤ w0 + R.slots ∧ nM ≤ 900000) ∧ (1 ≤ R.frames ∧ 100 ≤ R.locals) ∧ (fin = true → meth.name = "<init>")
/-- from here the machine comes to Q -/
def mW (p : Program) (l : Launch) (e : Env) (R : Room) (s : State) (m : MethodId) (args : Array Value) (below : List Frame) (meth : Method) (c : Code) (G : mG) (nL n0 w0 : Nat) (Q : State → Prop) (f : mC) : Prop :=
  ∀ (H : Heap) (locs : List Loc) (ls : Array Slot), mWd G f.2.2.2.2 H → va_S (mA G) s.heap H locs → lv_has ls nL (mLv G f.2.2.1) → n0 ≤ hN f.2.2.2.2 → w0 ≤ hW f.2.2.2.2 →
    W p l e R s m args below meth c H locs (hN f.2.2.2.2 - n0) (hW f.2.2.2.2 - w0) Q (F0 m f.2.1 ls (f.2.2.2.1.map (mCv G)))
section SO
variable {p : Program} {l : Launch} {e : Env} {R : Room} {s : State} {m : MethodId} {args : Array Value} {below : List Frame} {meth : Method} {c : Code} {Q : State → Prop} {cc : ByteArray} {own : String} {G : mG} {nL n0 w0 nM wM : Nat} {fin : Bool}
theorem mA_ge (C : mCx p R s m args meth c G cc own nL fin nM wM n0 w0) : ∀ q, s.heap.size ≤ q → mA G q := fun q hq => by
  have := C.2.2.2.2.2.2.1
  show G.1 ≤ q
  omega
theorem W_sz {H : Heap} {locs : List Loc} {cells slots : Nat} {g : JFrame} (k : H.size ≤ s.heap.size + cells → W p l e R s m args below meth c H locs cells slots Q g) : W p l e R s m args below meth c H locs cells slots Q g := by
  intro T hT X
  have h1 := X.same.2.2.1
  exact k (by rw [← hT]; exact h1) T hT X
theorem mWd_sz {H : Heap} {h : mHp} (hw : mWd G h H) (h0 : s.heap.size = G.1 + n0) (h1 : H.size ≤ s.heap.size + (hN h - n0)) (h2 : n0 ≤ hN h) (h3 : s.heap.size ≤ H.size) : H.size = G.1 + hN h := by
  rcases Nat.eq_zero_or_pos (hN h) with z | z
  · omega
  · have h4 := (hw.1 (hN h - 1) _ (mWs_get (by omega))).lt
    simp only at h4
    omega
/-- a load -/
theorem so_ld {pc pc' i cat : Nat} {ok : Bool} {L st : List Value} {h : mHp} (hok : (mLd ok pc' L st h i cat).1 = true)
    (k : mW p l e R s m args below meth c G nL n0 w0 Q (mLd ok pc' L st h i cat))
    (hi : cat = 0 → ∀ (x : Int32) (H : Heap) (locs : List Loc) (cells slots : Nat) (ls : Array Slot) (rest : List Value), ls[i]? = some (.val (.int x)) → W p l e R s m args below meth c H locs cells slots Q (F0 m pc' ls (.int x :: rest)) → W p l e R s m args below meth c H locs cells slots Q (F0 m pc ls rest))
    (ha : cat = 1 → ∀ (x : Option Nat) (H : Heap) (locs : List Loc) (cells slots : Nat) (ls : Array Slot) (rest : List Value), ls[i]? = some (.val (va_rf x)) → W p l e R s m args below meth c H locs cells slots Q (F0 m pc' ls (va_rf x :: rest)) → W p l e R s m args below meth c H locs cells slots Q (F0 m pc ls rest))
    (hl : cat = 2 → ∀ (x : Int64) (H : Heap) (locs : List Loc) (cells slots : Nat) (ls : Array Slot) (rest : List Value), ls[i]? = some (.val (.long x)) → W p l e R s m args below meth c H locs cells slots Q (F0 m pc' ls (.long x :: rest)) → W p l e R s m args below meth c H locs cells slots Q (F0 m pc ls rest)) :
    mW p l e R s m args below meth c G nL n0 w0 Q (ok, pc, L, st, h) := by
  intro H locs ls hw hS hv h0 h1
  unfold mLd at hok k
  split at hok
  · rename_i x e
    rw [e] at k
    exact hi rfl x H locs _ _ ls _ (mLv_at (v := .int x) hv e (fun n z => by cases z)) (k H locs ls hw hS hv h0 h1)
  · rename_i x e
    rw [e] at k
    exact ha rfl (mRo G x) H locs _ _ ls _ (mLv_at (v := .ref x) hv e (fun n z => by cases z)) (k H locs ls hw hS hv h0 h1)
  · rename_i x e
    rw [e] at k
    exact hl rfl x H locs _ _ ls _ (mLv_at (v := .long x) hv e (fun n z => by cases z)) (k H locs ls hw hS hv h0 h1)
  · cases hok
/-- a load of a reference, null or not -/
theorem so_aload (hx : p.tables.exec = Jvm.exec) (hb : c.code = cc) {i pc : Nat} {x : Option Nat} {H : Heap} {locs : List Loc} {cells slots : Nat} {ls : Array Slot} {rest : List Value} (hd : decode cc pc = .ok (.aload i, 2)) (hl : ls[i]? = some (.val (va_rf x)))
    (k : W p l e R s m args below meth c H locs cells slots Q (F0 m (pc + 2) ls (va_rf x :: rest))) : W p l e R s m args below meth c H locs cells slots Q (F0 m pc ls rest) := by
  cases x with
  | none => exact lv_aloadN hx hb hd hl k
  | some y => exact lv_aload hx hb hd hl k
theorem so_aload_n (hx : p.tables.exec = Jvm.exec) (hb : c.code = cc) {i : Fin 4} {pc : Nat} {x : Option Nat} {H : Heap} {locs : List Loc} {cells slots : Nat} {ls : Array Slot} {rest : List Value} (hd : decode cc pc = .ok (.aload_n i, 1)) (hl : ls[(i : Nat)]? = some (.val (va_rf x)))
    (k : W p l e R s m args below meth c H locs cells slots Q (F0 m (pc + 1) ls (va_rf x :: rest))) : W p l e R s m args below meth c H locs cells slots Q (F0 m pc ls rest) := by
  cases x with
  | none => exact lv_aload_nN hx hb hd rfl hl k
  | some y => exact lv_aload_n hx hb hd rfl hl k
/-- a store -/
theorem so_sto {pc pc' i cat : Nat} {ok : Bool} {L st : List Value} {h : mHp} (hsi : i < nL) (hs2 : cat = 2 → i + 1 < nL) (hok : (mSto ok pc' nL L st h i cat).1 = true)
    (k : mW p l e R s m args below meth c G nL n0 w0 Q (mSto ok pc' nL L st h i cat))
    (hi : cat = 0 → i < nL → ∀ (x : Int32) (H : Heap) (locs : List Loc) (cells slots : Nat) (ls : Array Slot) (rest : List Value) (lv : List (Nat × Value)), lv_has ls nL lv → (∀ ls' : Array Slot, lv_has ls' nL ((i, Value.int x) :: lv.filter (fun q => !(q.1 == i) && !(q.1 + 1 == i && q.2.category == 2))) → W p l e R s m args below meth c H locs cells slots Q (F0 m pc' ls' rest)) → W p l e R s m args below meth c H locs cells slots Q (F0 m pc ls (.int x :: rest)))
    (ha : cat = 1 → i < nL → ∀ (x : Option Nat) (H : Heap) (locs : List Loc) (cells slots : Nat) (ls : Array Slot) (rest : List Value) (lv : List (Nat × Value)), lv_has ls nL lv → (∀ ls' : Array Slot, lv_has ls' nL ((i, va_rf x) :: lv.filter (fun q => !(q.1 == i) && !(q.1 + 1 == i && q.2.category == 2))) → W p l e R s m args below meth c H locs cells slots Q (F0 m pc' ls' rest)) → W p l e R s m args below meth c H locs cells slots Q (F0 m pc ls (va_rf x :: rest)))
    (hl : cat = 2 → i + 1 < nL → ∀ (x : Int64) (H : Heap) (locs : List Loc) (cells slots : Nat) (ls : Array Slot) (rest : List Value) (lv : List (Nat × Value)), lv_has ls nL lv → (∀ ls' : Array Slot, lv_has ls' nL ((i, Value.long x) :: lv.filter (fun q => !(q.1 == i) && (!(q.1 == i + 1) && !(q.1 + 1 == i && q.2.category == 2)))) → W p l e R s m args below meth c H locs cells slots Q (F0 m pc' ls' rest)) → W p l e R s m args below meth c H locs cells slots Q (F0 m pc ls (.long x :: rest))) :
    mW p l e R s m args below meth c G nL n0 w0 Q (ok, pc, L, st, h) := by
  intro H locs ls hw hS hv h0 h1
  unfold mSto at hok k
  split at hok
  · rename_i x r
    exact hi rfl hsi x H locs _ _ ls _ _ hv (fun ls' hl' => k H locs ls' hw hS (mLv_set (v := .int x) hl') h0 h1)
  · rename_i x r
    exact ha rfl hsi (mRo G x) H locs _ _ ls _ _ hv (fun ls' hl' => k H locs ls' hw hS (mLv_set (v := .ref x) hl') h0 h1)
  · rename_i x r
    exact hl rfl (hs2 rfl) x H locs _ _ ls _ _ hv (fun ls' hl' => k H locs ls' hw hS (mLv_set2 (x := x) hl') h0 h1)
  · cases hok
theorem so_astore (hx : p.tables.exec = Jvm.exec) (hb : c.code = cc) {i pc : Nat} {x : Option Nat} {H : Heap} {locs : List Loc} {cells slots : Nat} {ls : Array Slot} {rest : List Value} {lv : List (Nat × Value)} (hd : decode cc pc = .ok (.astore i, 2)) (hn : i < nL) (h : lv_has ls nL lv)
    (k : ∀ ls' : Array Slot, lv_has ls' nL ((i, va_rf x) :: lv.filter (fun q => !(q.1 == i) && !(q.1 + 1 == i && q.2.category == 2))) → W p l e R s m args below meth c H locs cells slots Q (F0 m (pc + 2) ls' rest)) : W p l e R s m args below meth c H locs cells slots Q (F0 m pc ls (va_rf x :: rest)) := by
  cases x with
  | none => exact lv_astoreN hx hb hd h hn rfl k
  | some y => exact lv_astore hx hb hd h hn rfl k
theorem so_astore_n (hx : p.tables.exec = Jvm.exec) (hb : c.code = cc) {i : Fin 4} {pc : Nat} {x : Option Nat} {H : Heap} {locs : List Loc} {cells slots : Nat} {ls : Array Slot} {rest : List Value} {lv : List (Nat × Value)} (hd : decode cc pc = .ok (.astore_n i, 1)) (hn : (i : Nat) < nL) (h : lv_has ls nL lv)
    (k : ∀ ls' : Array Slot, lv_has ls' nL (((i : Nat), va_rf x) :: lv.filter (fun q => !(q.1 == (i : Nat)) && !(q.1 + 1 == (i : Nat) && q.2.category == 2))) → W p l e R s m args below meth c H locs cells slots Q (F0 m (pc + 1) ls' rest)) : W p l e R s m args below meth c H locs cells slots Q (F0 m pc ls (va_rf x :: rest)) := by
  cases x with
  | none => exact lv_astore_nN hx hb hd rfl h hn rfl k
  | some y => exact lv_astore_n hx hb hd rfl h hn rfl k
/-- a branch on two ints -/
theorem so_icmp (hx : p.tables.exec = Jvm.exec) (hb : c.code = cc) {cnd : ClassFile.Cond} {pc tgt : Nat} {off : Int} {x y : Int32} {H : Heap} {locs : List Loc} {cells slots : Nat} {ls : Array Slot} {rest : List Value} (hd : decode cc pc = .ok (.if_icmp cnd off, 3)) (ht : (pc : Int) + off = (tgt : Int))
    (k : W p l e R s m args below meth c H locs cells slots Q (F0 m (mCond cnd x y tgt (pc + 3)) ls rest)) : W p l e R s m args below meth c H locs cells slots Q (F0 m pc ls (.int y :: .int x :: rest)) := by
  cases cnd with
  | eq => exact lv_icmp_eq hx hb hd ht (fun z => by simpa [mCond, z] using k) (fun z => by simpa [mCond, z] using k)
  | ne => exact lv_icmp_ne hx hb hd ht (fun z => by simpa [mCond, z] using k) (fun z => by simpa [mCond, z] using k)
  | lt => exact lv_icmp_lt hx hb hd ht (fun z => by rw [mCond, if_pos z] at k; exact k) (fun z => by rw [mCond, if_neg z] at k; exact k)
  | ge => exact lv_icmp_ge hx hb hd ht (fun z => by rw [mCond, if_pos z] at k; exact k) (fun z => by rw [mCond, if_neg z] at k; exact k)
  | gt => exact lv_icmp_gt hx hb hd ht (fun z => by rw [mCond, if_pos z] at k; exact k) (fun z => by rw [mCond, if_neg z] at k; exact k)
  | le => exact lv_icmp_le hx hb hd ht (fun z => by rw [mCond, if_pos z] at k; exact k) (fun z => by rw [mCond, if_neg z] at k; exact k)
theorem so_icnd (hx : p.tables.exec = Jvm.exec) (hb : c.code = cc) {cnd : ClassFile.Cond} {pc tgt : Nat} {off : Int} {x : Int32} {H : Heap} {locs : List Loc} {cells slots : Nat} {ls : Array Slot} {rest : List Value} (hd : decode cc pc = .ok (.ifCond cnd off, 3)) (ht : (pc : Int) + off = (tgt : Int))
    (k : W p l e R s m args below meth c H locs cells slots Q (F0 m (mCond cnd x 0 tgt (pc + 3)) ls rest)) : W p l e R s m args below meth c H locs cells slots Q (F0 m pc ls (.int x :: rest)) := by
  cases cnd with
  | eq => exact lv_if_eq hx hb hd ht (fun z => by simpa [mCond, z] using k) (fun z => by simpa [mCond, z] using k)
  | ne => exact lv_if_ne hx hb hd ht (fun z => by simpa [mCond, z] using k) (fun z => by simpa [mCond, z] using k)
  | lt => exact lv_if_lt hx hb hd ht (fun z => by rw [mCond, if_pos z] at k; exact k) (fun z => by rw [mCond, if_neg z] at k; exact k)
  | ge => exact lv_if_ge hx hb hd ht (fun z => by rw [mCond, if_pos z] at k; exact k) (fun z => by rw [mCond, if_neg z] at k; exact k)
  | gt => exact lv_if_gt hx hb hd ht (fun z => by rw [mCond, if_pos z] at k; exact k) (fun z => by rw [mCond, if_neg z] at k; exact k)
  | le => exact lv_if_le hx hb hd ht (fun z => by rw [mCond, if_pos z] at k; exact k) (fun z => by rw [mCond, if_neg z] at k; exact k)
theorem mTk_ok {pc : Nat} {off : Int} (h : mTk pc off = true) : (pc : Int) + off = (mTg pc off : Int) := by
  have h1 : 0 ≤ (pc : Int) + off := of_decide_eq_true h
  unfold mTg
  omega
/-- a table's place -/
theorem mTab_in {pc : Nat} {d : Int} {x : Int32} : ∀ (os : List Int) (lo : Int), -2147483648 ≤ lo → lo + (os.length : Int) ≤ 2147483648 → ¬ x.toInt < lo → x.toInt < lo + (os.length : Int) → ∃ o, os[(x.toInt - lo).toNat]? = some o ∧ mTab pc os lo d x = mTg pc o
  | [], lo, h1, h2, h3, h4 => by simp at h4; omega
  | o :: os, lo, h1, h2, h3, h4 => by
    have h5 : ((o :: os).length : Int) = (os.length : Int) + 1 := by simp
    rw [h5] at h2 h4
    by_cases e : x = Int32.ofInt lo
    · have e2 : x.toInt = lo := by rw [e]; exact Int32.toInt_ofInt_of_le (by simpa using h1) (by omega)
      refine ⟨o, ?_, ?_⟩
      · rw [e2]; simp
      · unfold mTab
        rw [if_pos e]
    · have e2 : x.toInt ≠ lo := fun z => e (by
        rw [← z]; exact (Int32.ofInt_toInt x).symm)
      obtain ⟨o', g1, g2⟩ := mTab_in (pc := pc) (d := d) (x := x) os (lo + 1) (by omega) (by omega) (by omega) (by omega)
      refine ⟨o', ?_, ?_⟩
      · have e3 : (x.toInt - lo).toNat = (x.toInt - (lo + 1)).toNat + 1 := by omega
        rw [e3]; simpa using g1
      · unfold mTab
        rw [if_neg e]; exact g2
theorem mTab_out {pc : Nat} {d : Int} {x : Int32} : ∀ (os : List Int) (lo : Int), -2147483648 ≤ lo → lo + (os.length : Int) ≤ 2147483648 → (x.toInt < lo ∨ lo + (os.length : Int) ≤ x.toInt) → mTab pc os lo d x = mTg pc d
  | [], lo, h1, h2, h3 => rfl
  | o :: os, lo, h1, h2, h3 => by
    have h5 : ((o :: os).length : Int) = (os.length : Int) + 1 := by simp
    rw [h5] at h2 h3
    have e : ¬ x = Int32.ofInt lo := fun z => by
      have e2 : x.toInt = lo := by rw [z]; exact Int32.toInt_ofInt_of_le (by simpa using h1) (by omega)
      omega
    unfold mTab
    rw [if_neg e]
    exact mTab_out (pc := pc) (d := d) (x := x) os (lo + 1) (by omega) (by omega) (by omega)
theorem mLkp_eq {pc : Nat} {d : Int} {x : Int32} : ∀ (ps : List (Int × Int)), mLkp pc ps d x = mTg pc (Op.lookupswitch.offset ps d x.toInt) ∧ (Op.lookupswitch.offset ps d x.toInt = d ∨ Op.lookupswitch.offset ps d x.toInt ∈ ps.map (fun q => q.2))
  | [] => ⟨rfl, Or.inl rfl⟩
  | (v, o) :: ps => by
    obtain ⟨h1, h2⟩ := mLkp_eq (pc := pc) (d := d) (x := x) ps
    rw [Op.lookupswitch.offset_cons]
    unfold mLkp
    by_cases e : v = x.toInt
    · rw [if_pos e, if_pos e]
      exact ⟨rfl, Or.inr (by simp)⟩
    · rw [if_neg e, if_neg e]
      refine ⟨h1, ?_⟩
      rcases h2 with h2 | h2
      · exact Or.inl h2
      · exact Or.inr (List.mem_cons_of_mem _ h2)
end SO
end
section
/-! the words of the classes' fields are among the tables' -/
set_option maxRecDepth 100000 in
theorem uwX0 : ∀ w ∈ u_ws RX0 TX0 5, w ∈ mTb := by decide +kernel
set_option maxRecDepth 100000 in
theorem uwX1 : ∀ w ∈ u_ws RX1 TX1 4, w ∈ mTb := by decide +kernel
set_option maxRecDepth 100000 in
theorem uwX2 : ∀ w ∈ u_ws RX2 TX2 6, w ∈ mTb := by decide +kernel
set_option maxRecDepth 100000 in
theorem uwX3 : ∀ w ∈ u_ws RX3 TX3 9, w ∈ mTb := by decide +kernel
set_option maxRecDepth 100000 in
theorem uwX4 : ∀ w ∈ u_ws RX4 TX4 10, w ∈ mTb := by decide +kernel
set_option maxRecDepth 100000 in
theorem uwX5 : ∀ w ∈ u_ws RX5 TX5 6, w ∈ mTb := by decide +kernel
set_option maxRecDepth 100000 in
theorem uwX6 : ∀ w ∈ u_ws RX6 TX6 9, w ∈ mTb := by decide +kernel
set_option maxRecDepth 100000 in
theorem uwX7 : ∀ w ∈ u_ws RX7 TX7 5, w ∈ mTb := by decide +kernel
set_option maxRecDepth 100000 in
theorem uwX8 : ∀ w ∈ u_ws RX8 TX8 12, w ∈ mTb := by decide +kernel
set_option maxRecDepth 100000 in
theorem uwX9 : ∀ w ∈ u_ws RX9 TX9 3, w ∈ mTb := by decide +kernel
set_option maxRecDepth 100000 in
theorem uwX10 : ∀ w ∈ u_ws RX10 TX10 15, w ∈ mTb := by decide +kernel
set_option maxRecDepth 100000 in
theorem uwX11 : ∀ w ∈ u_ws RX11 TX11 15, w ∈ mTb := by decide +kernel
set_option maxRecDepth 100000 in
theorem uwX12 : ∀ w ∈ u_ws RX12 TX12 73, w ∈ mTb := by decide +kernel
theorem mCl_in {a : Nat} {r : vw_C} (h : vwCl[a]? = some r) : ∀ w ∈ u_ws r.1 r.2.1 r.2.2, w ∈ mTb := by
  match a, h with
  | 0, h => cases h; exact uwX0
  | 1, h => cases h; exact uwX1
  | 2, h => cases h; exact uwX2
  | 3, h => cases h; exact uwX3
  | 4, h => cases h; exact uwX4
  | 5, h => cases h; exact uwX5
  | 6, h => cases h; exact uwX6
  | 7, h => cases h; exact uwX7
  | 8, h => cases h; exact uwX8
  | 9, h => cases h; exact uwX9
  | 10, h => cases h; exact uwX10
  | 11, h => cases h; exact uwX11
  | 12, h => cases h; exact uwX12
  | n + 13, h => cases h
set_option maxRecDepth 100000 in
theorem mTy_nf0 : ∀ a, a < 13 → ∀ k, k < mNf a → (mTy a k ≠ .float ∧ mTy a k ≠ .double) := by decide +kernel
theorem mCl_lt {a : Nat} {r : vw_C} (h : vwCl[a]? = some r) : a < 13 := by
  have := (List.getElem?_eq_some_iff.mp h).1
  exact this
end
section
/-! THE STEPS THAT READ AND WRITE CELLS. -/
theorem mFs_set {G : mG} {h h' : mHp} {r c b : Nat} {v : Value} (hv : mFv G h' r b (mTy c b) = v) (ho : ∀ k, k ≠ b → mFv G h' r k (mTy c k) = mFv G h r k (mTy c k)) : ((List.range (mNf c)).map (fun k => mFv G h r k (mTy c k))).set b v = (List.range (mNf c)).map (fun k => mFv G h' r k (mTy c k)) := by
  apply List.ext_getElem?
  intro k
  by_cases hk : k < mNf c
  · rw [mFs_get hk]
    by_cases e : k = b
    · subst e
      rw [List.getElem?_set_self (by simpa using hk), hv]
    · rw [List.getElem?_set_ne (Ne.symm e), mFs_get hk, ho k e]
  · rw [List.getElem?_eq_none (by simp; omega), List.getElem?_eq_none (by simp; omega)]
theorem mup_ne {α : Type} {f : Nat → α} {k j : Nat} {v : α} (h : j ≠ k) : va_up f k v j = f j := by
  unfold va_up
  rw [if_neg h]
theorem mup_at {α : Type} {f : Nat → α} {k : Nat} {v : α} : va_up f k v k = v := by
  unfold va_up
  rw [if_pos rfl]
theorem mFv_putI {G : mG} {h : mHp} {r k b : Nat} {x : Int32} {ty : FieldType} (hk : k ≠ b) : mFv G (putI h r b x) r k ty = mFv G h r k ty := by
  have e : hI (putI h r b x) r k = hI h r k := by
    show up2 h.1 r b x r k = h.1 r k
    rw [up2_at, mup_ne hk]
  cases ty <;> first | rfl | (show Value.int (hI (putI h r b x) r k) = Value.int (hI h r k); rw [e])
theorem mFv_putJ {G : mG} {h : mHp} {r k b : Nat} {x : Int64} {ty : FieldType} (hk : k ≠ b) : mFv G (putJ h r b x) r k ty = mFv G h r k ty := by
  have e : hJ (putJ h r b x) r k = hJ h r k := by
    show up2 h.2.1 r b x r k = h.2.1 r k
    rw [up2_at, mup_ne hk]
  cases ty <;> first | rfl | (show Value.long (hJ (putJ h r b x) r k) = Value.long (hJ h r k); rw [e])
theorem mFv_putR {G : mG} {h : mHp} {r k b x : Nat} {ty : FieldType} (hk : k ≠ b) : mFv G (putR h r b x) r k ty = mFv G h r k ty := by
  have e : hR (putR h r b x) r k = hR h r k := by
    show up2 h.2.2.1 r b x r k = h.2.2.1 r k
    rw [up2_at, mup_ne hk]
  cases ty <;> first | rfl | (show va_rf (mRo G (hR (putR h r b x) r k)) = va_rf (mRo G (hR h r k)); rw [e])
/-- a put: the heap then, and that the value fits -/
def mPF (G : mG) (h : mHp) (r c b : Nat) (v : Value) (h' : mHp) : Prop :=
    hN h' = hN h ∧ hW h' = hW h ∧ narrow (mTy c b) (mCv G v) = mCv G v ∧ fits (mTy c b) (mCv G v) = true ∧
    mEl G h' r = .inr (c, ((List.range (mNf c)).map (fun k => mFv G h r k (mTy c k))).set b (mCv G v)) ∧ ∀ j, j ≠ r → mEl G h' j = mEl G h j
theorem mPF_key {G : mG} {h h' : mHp} {r c b : Nat} {v : Value} (hs : hS h r = .inl c) (e1 : hS h' r = hS h r) (e2 : mFv G h' r b (mTy c b) = mCv G v) (e3 : ∀ k, k ≠ b → mFv G h' r k (mTy c k) = mFv G h r k (mTy c k)) : mEl G h' r = .inr (c, ((List.range (mNf c)).map (fun k => mFv G h r k (mTy c k))).set b (mCv G v)) := by
  rw [mEl_O (e1.trans hs), mFs_set e2 e3]
theorem mPF_I {G : mG} {h : mHp} {r c b : Nat} {x : Int32} {ty : FieldType} (ht : mTy c b = ty) (hty : ty = .int ∨ ty = .boolean ∨ ty = .char) (hs : hS h r = .inl c) (hf : mFit ty x = true) : mPF G h r c b (.int x) (putI h r b x) := by
  have eI : hI (putI h r b x) r b = x := by
    show up2 h.1 r b x r b = x
    rw [up2_at, mup_at]
  have e2 : mFv G (putI h r b x) r b (mTy c b) = mCv G (.int x) := by
    rw [ht]
    rcases hty with rfl | rfl | rfl <;> (show Value.int (hI (putI h r b x) r b) = _; rw [eI]; rfl)
  have e3 : narrow (mTy c b) (.int x) = .int x ∧ fits (mTy c b) (.int x) = true := by
    rw [ht]
    rcases hty with rfl | rfl | rfl
    · exact ⟨rfl, rfl⟩
    · have z1 : x = 0 ∨ x = 1 := of_decide_eq_true hf
      rcases z1 with rfl | rfl <;> decide
    · have z1 : (decide (narrow .char (.int x) = .int x) && fits .char (.int x)) = true := hf
      rw [Bool.and_eq_true] at z1
      exact ⟨of_decide_eq_true z1.1, z1.2⟩
  exact ⟨rfl, rfl, e3.1, e3.2, mPF_key hs rfl e2 (fun k hk => mFv_putI hk), fun j hj => mEl_putI hj⟩
theorem mPF_J {G : mG} {h : mHp} {r c b : Nat} {x : Int64} (ht : mTy c b = .long) (hs : hS h r = .inl c) : mPF G h r c b (.long x) (putJ h r b x) := by
  have eJ : hJ (putJ h r b x) r b = x := by
    show up2 h.2.1 r b x r b = x
    rw [up2_at, mup_at]
  have e2 : mFv G (putJ h r b x) r b (mTy c b) = mCv G (.long x) := by
    rw [ht]
    show Value.long (hJ (putJ h r b x) r b) = _
    rw [eJ]; rfl
  exact ⟨rfl, rfl, by rw [ht]; rfl, by rw [ht]; rfl, mPF_key hs rfl e2 (fun k hk => mFv_putJ hk), fun j hj => mEl_putJ hj⟩
theorem mPF_R {G : mG} {h : mHp} {r c b x : Nat} (ht : (∃ n, mTy c b = .object n) ∨ ∃ t, mTy c b = .array t) (hs : hS h r = .inl c) : mPF G h r c b (.ref x) (putR h r b x) := by
  have eR : hR (putR h r b x) r b = x := by
    show up2 h.2.2.1 r b x r b = x
    rw [up2_at, mup_at]
  have e2 : mFv G (putR h r b x) r b (mTy c b) = mCv G (.ref x) := by
    rcases ht with ⟨n, ht⟩ | ⟨t, ht⟩ <;> (rw [ht]; show va_rf (mRo G (hR (putR h r b x) r b)) = _; rw [eR]; rfl)
  have fr : narrow (mTy c b) (mCv G (.ref x)) = mCv G (.ref x) ∧ fits (mTy c b) (mCv G (.ref x)) = true := by
    show narrow (mTy c b) (va_rf (mRo G x)) = va_rf (mRo G x) ∧ fits (mTy c b) (va_rf (mRo G x)) = true
    rcases ht with ⟨n, ht⟩ | ⟨t, ht⟩ <;> rw [ht] <;> cases mRo G x <;> exact ⟨rfl, rfl⟩
  exact ⟨rfl, rfl, fr.1, fr.2, mPF_key hs rfl e2 (fun k hk => mFv_putR hk), fun j hj => mEl_putR hj⟩
section SH
variable {p : Program} {l : Launch} {e : Env} {R : Room} {s : State} {m : MethodId} {args : Array Value} {below : List Frame} {meth : Method} {c : Code} {Q : State → Prop} {cc : ByteArray} {own : String} {G : mG} {nL n0 w0 nM wM : Nat} {fin : Bool}
theorem so_get (C : mCx p R s m args meth c G cc own nL fin nM wM n0 w0) {i pc a b r : Nat} {ok ok' : Bool} {L t : List Value} {h : mHp} (hd : decode cc pc = .ok (.getfield i, 3)) (he : ∃ r0 : vw_C, vwCl[a]? = some r0 ∧ Cond.fieldLink own i (r0.2.1 b).1 (r0.2.1 b).2.1 (r0.2.1 b).2.2.1 ∈ mTb) (hr : r < hN h) (hs : hS h r = .inl a) (hb : b < mNf a)
    (k : mW p l e R s m args below meth c G nL n0 w0 Q (ok', pc + 3, L, mGet a h r b (mTy a b) :: t, h)) : mW p l e R s m args below meth c G nL n0 w0 Q (ok, pc, L, .ref r :: t, h) := by
  obtain ⟨r0, hc, hlk⟩ := he
  obtain ⟨hx, hcb, hml, hown, hts, hK, hsz, hX, hnm, hfr, hfin⟩ := C
  intro H locs ls hw hS hv h0 h1
  have hr9 : r < 900000 := Nat.lt_of_lt_of_le hr hw.2
  show W p l e R s m args below meth c H locs _ _ Q (F0 m pc ls (mCv G (.ref r) :: t.map (mCv G)))
  rw [mCv_ref hr9]
  refine va_get (D := G.2.2.2.1) (ci := a) (C := r0.1) (T := r0.2.1) (N := r0.2.2) (v := mFv G h r b (mTy a b)) hx hcb hts (mCl_in hc) hown hK hw.1 r (by rw [mWs_get hr, mEl_O hs]) hc b (by rw [← mCl_nf hc]; exact hb) (hts _ hlk) (fun _ z => z) (mFs_get hb) hd ?_
  have k1 := k H locs ls hw hS hv h0 h1
  rw [← mCv_get (a := a)]
  exact k1
theorem so_put (C : mCx p R s m args meth c G cc own nL fin nM wM n0 w0) {i pc a b r : Nat} {ok ok' : Bool} {L t : List Value} {h : mHp} {v : Value} (hd : decode cc pc = .ok (.putfield i, 3)) (he : ∃ r0 : vw_C, vwCl[a]? = some r0 ∧ Cond.fieldLink own i (r0.2.1 b).1 (r0.2.1 b).2.1 (r0.2.1 b).2.2.1 ∈ mTb ∧ (mFin a b = true → (r0.2.1 b).1 = own)) (hr : r < hN h) (hs : hS h r = .inl a) (hb : b < mNf a) (hf : (!(mFin a b) || fin) = true) {h' : mHp} (hp : mPF G h r a b v h')
    (k : mW p l e R s m args below meth c G nL n0 w0 Q (ok', pc + 3, L, t, h')) : mW p l e R s m args below meth c G nL n0 w0 Q (ok, pc, L, v :: .ref r :: t, h) := by
  obtain ⟨r0, hc, hlk, hownf⟩ := he
  obtain ⟨hx, hcb, hml, hown, hts, hK, hsz, hX, hnm, hfr, hfin⟩ := C
  intro H locs ls hw hS hv h0 h1
  have hr9 : r < 900000 := Nat.lt_of_lt_of_le hr hw.2
  obtain ⟨e1, e2, e3, e4, e5, e6⟩ := hp
  show W p l e R s m args below meth c H locs _ _ Q (F0 m pc ls (mCv G v :: mCv G (.ref r) :: t.map (mCv G)))
  rw [mCv_ref hr9]
  have hbn : b < r0.2.2 := by rw [← mCl_nf hc]; exact hb
  have hset : (mWs G h).set r (G.1 + r, .inr (a, ((List.range (mNf a)).map (fun k => mFv G h r k (mTy a k))).set b (mCv G v))) = mWs G h' := mWs_set e1 hr e5 (fun j _ hj => e6 j hj)
  have go : ∀ (H1 : Heap) (locs1 : List Loc), va_P G.2.2.2.1 vwCl ((mWs G h).set r (G.1 + r, .inr (a, ((List.range (mNf a)).map (fun k => mFv G h r k (mTy a k))).set b (mCv G v)))) H1 → va_D (mA G) ((mWs G h).set r (G.1 + r, .inr (a, ((List.range (mNf a)).map (fun k => mFv G h r k (mTy a k))).set b (mCv G v)))) → va_S (mA G) s.heap H1 locs1 → W p l e R s m args below meth c H1 locs1 (hN h - n0) (hW h - w0) Q (F0 m (pc + 3) ls (t.map (mCv G))) := by
    intro H1 locs1 hP1 _ hS1
    rw [hset] at hP1
    have k1 := k H1 locs1 ls ⟨hP1, by rw [e1]; exact hw.2⟩ hS1 hv (by show n0 ≤ hN _; rw [e1]; exact h0) (by show w0 ≤ hW _; rw [e2]; exact h1)
    have k2 : W p l e R s m args below meth c H1 locs1 (hN h' - n0) (hW h' - w0) Q (F0 m (pc + 3) ls (t.map (mCv G))) := k1
    rw [e1, e2] at k2
    exact k2
  by_cases hfi : mFin a b = true
  · have hft : fin = true := by rw [hfi] at hf; simpa using hf
    exact va_putF (D := G.2.2.2.1) (ci := a) (v := mCv G v) (ty := mTy a b) (C := r0.1) (T := r0.2.1) (N := r0.2.2) hx hcb hts (mCl_in hc) (mTy a) (mCl_ty hc) (mCl_nm hc) hown hK hw.1 mWs_D hS r (by rw [mWs_get hr, mEl_O hs]) hc b hbn (hts _ hlk) (fun _ z => z) (by rw [← mCl_fin hc]; exact hfi) (hfin hft) (hownf hfi) (mCl_ty hc b hbn) e3 e4 (by simpa using hb) hd go
  · exact va_put (D := G.2.2.2.1) (ci := a) (v := mCv G v) (ty := mTy a b) (C := r0.1) (T := r0.2.1) (N := r0.2.2) hx hcb hts (mCl_in hc) (mTy a) (mCl_ty hc) (mCl_nm hc) hown hK hw.1 mWs_D hS r (by rw [mWs_get hr, mEl_O hs]) hc b hbn (hts _ hlk) (fun _ z => z) (by rw [← mCl_fin hc]; simpa using hfi) (mCl_ty hc b hbn) e3 e4 (by simpa using hb) hd go
/-- a read of an array -/
theorem so_iald (C : mCx p R s m args meth c G cc own nL fin nM wM n0 w0) {pc r n : Nat} {i : Int32} {ok ok' : Bool} {L t : List Value} {h : mHp} (hd : decode cc pc = .ok (.iaload, 1)) (hr : r < hN h) (hs : hS h r = .inr (.int, n)) (hi : vp_in i n)
    (k : mW p l e R s m args below meth c G nL n0 w0 Q (ok', pc + 1, L, .int (hI h r (mIx i)) :: t, h)) : mW p l e R s m args below meth c G nL n0 w0 Q (ok, pc, L, .int i :: .ref r :: t, h) := by
  obtain ⟨hx, hcb, hml, hown, hts, hK, hsz, hX, hnm, hfr, hfin⟩ := C
  intro H locs ls hw hS hv h0 h1
  show W p l e R s m args below meth c H locs _ _ Q (F0 m pc ls (.int i :: mCv G (.ref r) :: t.map (mCv G)))
  rw [mCv_ref (Nat.lt_of_lt_of_le hr hw.2)]
  exact va_iald hx hcb hK hw.1 r 0 (by rw [mWs_get hr, mEl_A hs]; rfl) rfl hi hd (k H locs ls hw hS hv h0 h1)
theorem so_bald (C : mCx p R s m args meth c G cc own nL fin nM wM n0 w0) {pc r n : Nat} {i : Int32} {ok ok' : Bool} {L t : List Value} {h : mHp} (hd : decode cc pc = .ok (.baload, 1)) (hr : r < hN h) (hs : hS h r = .inr (.byte, n) ∨ hS h r = .inr (.boolean, n)) (hi : vp_in i n)
    (k : mW p l e R s m args below meth c G nL n0 w0 Q (ok', pc + 1, L, .int (hI h r (mIx i)) :: t, h)) : mW p l e R s m args below meth c G nL n0 w0 Q (ok, pc, L, .int i :: .ref r :: t, h) := by
  obtain ⟨hx, hcb, hml, hown, hts, hK, hsz, hX, hnm, hfr, hfin⟩ := C
  intro H locs ls hw hS hv h0 h1
  show W p l e R s m args below meth c H locs _ _ Q (F0 m pc ls (.int i :: mCv G (.ref r) :: t.map (mCv G)))
  rw [mCv_ref (Nat.lt_of_lt_of_le hr hw.2)]
  rcases hs with hs | hs
  · exact va_bald hx hcb hK hw.1 r 1 (by rw [mWs_get hr, mEl_A hs]; rfl) rfl hi hd (k H locs ls hw hS hv h0 h1)
  · exact va_zald hx hcb hK hw.1 r 2 (by rw [mWs_get hr, mEl_A hs]; rfl) rfl hi hd (k H locs ls hw hS hv h0 h1)
theorem so_lald (C : mCx p R s m args meth c G cc own nL fin nM wM n0 w0) {pc r n : Nat} {i : Int32} {ok ok' : Bool} {L t : List Value} {h : mHp} (hd : decode cc pc = .ok (.laload, 1)) (hr : r < hN h) (hs : hS h r = .inr (.long, n)) (hi : vp_in i n)
    (k : mW p l e R s m args below meth c G nL n0 w0 Q (ok', pc + 1, L, .long (hJ h r (mIx i)) :: t, h)) : mW p l e R s m args below meth c G nL n0 w0 Q (ok, pc, L, .int i :: .ref r :: t, h) := by
  obtain ⟨hx, hcb, hml, hown, hts, hK, hsz, hX, hnm, hfr, hfin⟩ := C
  intro H locs ls hw hS hv h0 h1
  show W p l e R s m args below meth c H locs _ _ Q (F0 m pc ls (.int i :: mCv G (.ref r) :: t.map (mCv G)))
  rw [mCv_ref (Nat.lt_of_lt_of_le hr hw.2)]
  exact va_lald hx hcb hK hw.1 r 3 (by rw [mWs_get hr, mEl_A hs]; rfl) rfl hi hd (k H locs ls hw hS hv h0 h1)
theorem so_aald (C : mCx p R s m args meth c G cc own nL fin nM wM n0 w0) {pc r n : Nat} {i : Int32} {ok ok' : Bool} {L t : List Value} {h : mHp} (hd : decode cc pc = .ok (.aaload, 1)) (hr : r < hN h) (hs : hS h r = .inr (.array .int, n)) (hi : vp_in i n)
    (k : mW p l e R s m args below meth c G nL n0 w0 Q (ok', pc + 1, L, .ref (hR h r (mIx i)) :: t, h)) : mW p l e R s m args below meth c G nL n0 w0 Q (ok, pc, L, .int i :: .ref r :: t, h) := by
  obtain ⟨hx, hcb, hml, hown, hts, hK, hsz, hX, hnm, hfr, hfin⟩ := C
  intro H locs ls hw hS hv h0 h1
  show W p l e R s m args below meth c H locs _ _ Q (F0 m pc ls (.int i :: mCv G (.ref r) :: t.map (mCv G)))
  rw [mCv_ref (Nat.lt_of_lt_of_le hr hw.2)]
  have hlt : i.toNatClampNeg < n := Nat.not_le.mp fun q => hi (Or.inr q)
  have ha : (mWs G h)[r]? = some (G.1 + r, .inl (G.2.2.2.2 (.array .int), n, .inr (.inr (.inr (.inr (fun k => mRo G (hR h r k))))))) := by rw [mWs_get hr, mEl_A hs]; rfl
  exact W.aald (v := va_rf (mRo G (hR h r (mIx i)))) (ty := .array .int) hx hcb (hw.1 r _ ha) ((hK.2 4 _ rfl).1 n (fun j => va_rf (mRo G (hR h r j)))) rfl (fun q => by cases q) (by show ¬ (i < 0 ∨ (arrV _ _ _).slots.size ≤ _); rw [arrV_size]; exact hi) (by show (arrV _ _ _).slots[_]? = _; rw [arrV_read _ _ hlt]; rfl) rfl rfl hd (k H locs ls hw hS hv h0 h1)
theorem so_alen (C : mCx p R s m args meth c G cc own nL fin nM wM n0 w0) {pc r n : Nat} {ok ok' : Bool} {L t : List Value} {h : mHp} (hd : decode cc pc = .ok (.arraylength, 1)) (hr : r < hN h) (hs : hS h r = .inr (.int, n))
    (k : mW p l e R s m args below meth c G nL n0 w0 Q (ok', pc + 1, L, .int (Int32.ofNat n) :: t, h)) : mW p l e R s m args below meth c G nL n0 w0 Q (ok, pc, L, .ref r :: t, h) := by
  obtain ⟨hx, hcb, hml, hown, hts, hK, hsz, hX, hnm, hfr, hfin⟩ := C
  intro H locs ls hw hS hv h0 h1
  show W p l e R s m args below meth c H locs _ _ Q (F0 m pc ls (mCv G (.ref r) :: t.map (mCv G)))
  rw [mCv_ref (Nat.lt_of_lt_of_le hr hw.2)]
  exact va_alen (x := mAr G h r n .int) (v := Int32.ofNat n) hx hcb hK hw.1 r 0 (by rw [mWs_get hr, mEl_A hs]) rfl rfl hd (k H locs ls hw hS hv h0 h1)
/-- a write of an int array -/
theorem so_iast (C : mCx p R s m args meth c G cc own nL fin nM wM n0 w0) {pc r n : Nat} {i x : Int32} {ok ok' : Bool} {L t : List Value} {h : mHp} (hd : decode cc pc = .ok (.iastore, 1)) (hr : r < hN h) (hs : hS h r = .inr (.int, n)) (hi : vp_in i n)
    (k : mW p l e R s m args below meth c G nL n0 w0 Q (ok', pc + 1, L, t, putI h r (mIx i) x)) : mW p l e R s m args below meth c G nL n0 w0 Q (ok, pc, L, .int x :: .int i :: .ref r :: t, h) := by
  obtain ⟨hx, hcb, hml, hown, hts, hK, hsz, hX, hnm, hfr, hfin⟩ := C
  intro H locs ls hw hS hv h0 h1
  show W p l e R s m args below meth c H locs _ _ Q (F0 m pc ls (.int x :: .int i :: mCv G (.ref r) :: t.map (mCv G)))
  rw [mCv_ref (Nat.lt_of_lt_of_le hr hw.2)]
  have hset : (mWs G h).set r (G.1 + r, .inl (G.2.2.2.2 .int, n, .inl (upd (hI h r) (mIx i) x))) = mWs G (putI h r (mIx i) x) := mWs_set rfl hr (by
    rw [mEl_A (h := putI h r (mIx i) x) (n := n) (ty := .int) hs]
    show Sum.inl (_, n, Sum.inl (hI (putI h r (mIx i) x) r)) = _
    rw [show hI (putI h r (mIx i) x) r = va_up (hI h r) (mIx i) x from up2_at]
    rfl) (fun j _ hj => mEl_putI hj)
  refine va_iast hx hcb hK hw.1 mWs_D hS r 0 (cA := G.2.2.2.2 .int) (n := n) (f := hI h r) (by rw [mWs_get hr, mEl_A hs]; rfl) rfl hi hd fun H1 locs1 hP1 _ hS1 => ?_
  rw [show i.toNatClampNeg = mIx i from rfl, hset] at hP1
  exact k H1 locs1 ls ⟨hP1, hw.2⟩ hS1 hv h0 h1
theorem so_bast (C : mCx p R s m args meth c G cc own nL fin nM wM n0 w0) {pc r n : Nat} {i x : Int32} {ok ok' : Bool} {L t : List Value} {h : mHp} (hd : decode cc pc = .ok (.bastore, 1)) (hr : r < hN h) (hs : hS h r = .inr (.byte, n) ∨ hS h r = .inr (.boolean, n)) (hi : vp_in i n)
    (k : mW p l e R s m args below meth c G nL n0 w0 Q (ok', pc + 1, L, t, putI h r (mIx i) (mNar h r x))) : mW p l e R s m args below meth c G nL n0 w0 Q (ok, pc, L, .int x :: .int i :: .ref r :: t, h) := by
  obtain ⟨hx, hcb, hml, hown, hts, hK, hsz, hX, hnm, hfr, hfin⟩ := C
  intro H locs ls hw hS hv h0 h1
  show W p l e R s m args below meth c H locs _ _ Q (F0 m pc ls (.int x :: .int i :: mCv G (.ref r) :: t.map (mCv G)))
  rw [mCv_ref (Nat.lt_of_lt_of_le hr hw.2)]
  rcases hs with hs | hs
  · have en : mNar h r x = vp_nar .byte x := by unfold mNar; rw [hs]; rfl
    rw [en] at k
    have hset : (mWs G h).set r (G.1 + r, .inl (G.2.2.2.2 .byte, n, .inl (upd (hI h r) (mIx i) (vp_nar .byte x)))) = mWs G (putI h r (mIx i) (vp_nar .byte x)) := mWs_set rfl hr (by
      rw [mEl_A (h := putI h r (mIx i) (vp_nar .byte x)) (n := n) (ty := .byte) hs]
      show Sum.inl (_, n, Sum.inl (hI (putI h r (mIx i) (vp_nar .byte x)) r)) = _
      rw [show hI (putI h r (mIx i) (vp_nar .byte x)) r = va_up (hI h r) (mIx i) (vp_nar .byte x) from up2_at]
      rfl) (fun j _ hj => mEl_putI hj)
    refine va_bast hx hcb hK hw.1 mWs_D hS r 1 (cA := G.2.2.2.2 .byte) (n := n) (f := hI h r) (by rw [mWs_get hr, mEl_A hs]; rfl) rfl hi hd fun H1 locs1 hP1 _ hS1 => ?_
    rw [show i.toNatClampNeg = mIx i from rfl, hset] at hP1
    exact k H1 locs1 ls ⟨hP1, hw.2⟩ hS1 hv h0 h1
  · have en : mNar h r x = vp_nar .boolean x := by unfold mNar; rw [hs]; rfl
    rw [en] at k
    have hset : (mWs G h).set r (G.1 + r, .inl (G.2.2.2.2 .boolean, n, .inl (upd (hI h r) (mIx i) (vp_nar .boolean x)))) = mWs G (putI h r (mIx i) (vp_nar .boolean x)) := mWs_set rfl hr (by
      rw [mEl_A (h := putI h r (mIx i) (vp_nar .boolean x)) (n := n) (ty := .boolean) hs]
      show Sum.inl (_, n, Sum.inl (hI (putI h r (mIx i) (vp_nar .boolean x)) r)) = _
      rw [show hI (putI h r (mIx i) (vp_nar .boolean x)) r = va_up (hI h r) (mIx i) (vp_nar .boolean x) from up2_at]
      rfl) (fun j _ hj => mEl_putI hj)
    refine va_zast hx hcb hK hw.1 mWs_D hS r 2 (cA := G.2.2.2.2 .boolean) (n := n) (f := hI h r) (by rw [mWs_get hr, mEl_A hs]; rfl) rfl hi hd fun H1 locs1 hP1 _ hS1 => ?_
    rw [show i.toNatClampNeg = mIx i from rfl, hset] at hP1
    exact k H1 locs1 ls ⟨hP1, hw.2⟩ hS1 hv h0 h1
theorem so_last (C : mCx p R s m args meth c G cc own nL fin nM wM n0 w0) {pc r n : Nat} {i : Int32} {x : Int64} {ok ok' : Bool} {L t : List Value} {h : mHp} (hd : decode cc pc = .ok (.lastore, 1)) (hr : r < hN h) (hs : hS h r = .inr (.long, n)) (hi : vp_in i n)
    (k : mW p l e R s m args below meth c G nL n0 w0 Q (ok', pc + 1, L, t, putJ h r (mIx i) x)) : mW p l e R s m args below meth c G nL n0 w0 Q (ok, pc, L, .long x :: .int i :: .ref r :: t, h) := by
  obtain ⟨hx, hcb, hml, hown, hts, hK, hsz, hX, hnm, hfr, hfin⟩ := C
  intro H locs ls hw hS hv h0 h1
  show W p l e R s m args below meth c H locs _ _ Q (F0 m pc ls (.long x :: .int i :: mCv G (.ref r) :: t.map (mCv G)))
  rw [mCv_ref (Nat.lt_of_lt_of_le hr hw.2)]
  have hset : (mWs G h).set r (G.1 + r, .inl (G.2.2.2.2 .long, n, .inr (.inl (vp_updL (hJ h r) (mIx i) x)))) = mWs G (putJ h r (mIx i) x) := mWs_set rfl hr (by
    rw [mEl_A (h := putJ h r (mIx i) x) (n := n) (ty := .long) hs]
    show Sum.inl (_, n, Sum.inr (Sum.inl (hJ (putJ h r (mIx i) x) r))) = _
    rw [show hJ (putJ h r (mIx i) x) r = va_up (hJ h r) (mIx i) x from up2_at]
    rfl) (fun j _ hj => mEl_putJ hj)
  refine va_last hx hcb hK hw.1 mWs_D hS r 3 (cA := G.2.2.2.2 .long) (n := n) (f := hJ h r) (by rw [mWs_get hr, mEl_A hs]; rfl) rfl hi hd fun H1 locs1 hP1 _ hS1 => ?_
  rw [show i.toNatClampNeg = mIx i from rfl, hset] at hP1
  exact k H1 locs1 ls ⟨hP1, hw.2⟩ hS1 hv h0 h1
theorem mw_native : nativeFrameWords "java/lang/System" "arraycopy" 5 + 11 + 8 ≤ 100 := by decide
theorem mw_tbl1 : Cond.native arraycopyName ∈ mTb ∧ Cond.static arraycopyName ∈ mTb ∧ Cond.initialized "java/lang/System" ∈ mTb := by decide +kernel
theorem mCv_cats {t : List Value} : ((t.map (mCv G)).map fun v => v.category) = t.map fun v => v.category := by
  rw [List.map_map]
  apply List.map_congr_left
  intro v _
  exact mCv_cat v
theorem so_copy (C : mCx p R s m args meth c G cc own nL fin nM wM n0 w0) {i pc a d : Nat} {sp dp n : Int32} {ok ok' : Bool} {L : List Value} {h : mHp} (hd : decode cc pc = .ok (.invokestatic i, 3)) (he : Cond.methodLink own i arraycopyName ∈ mTb) (hc : chC h a d sp dp n = true)
    (k : mW p l e R s m args below meth c G nL n0 w0 Q (ok', pc + 3, L, [], cpyI h a d sp dp n)) : mW p l e R s m args below meth c G nL n0 w0 Q (ok, pc, L, [.int n, .int dp, .ref d, .int sp, .ref a], h) := by
  obtain ⟨hx, hcb, hml, hown, hts, hK, hsz, hX, hnm, hfr, hfin⟩ := C
  intro H locs ls hw hS hv h0 h1
  unfold chC cpOk at hc
  simp only [Bool.and_eq_true, Bool.not_eq_true', decide_eq_true_eq, decide_eq_false_iff_not] at hc
  obtain ⟨⟨c1, c2⟩, ⟨⟨c3, c4⟩, c5⟩, c6, c7⟩ := hc
  obtain ⟨ha, sa⟩ := chL_ok c1
  obtain ⟨hdn, sd⟩ := chL_ok c2
  show W p l e R s m args below meth c H locs _ _ Q (F0 m pc ls (.int n :: .int dp :: mCv G (.ref d) :: .int sp :: mCv G (.ref a) :: []))
  rw [mCv_ref (Nat.lt_of_lt_of_le ha hw.2), mCv_ref (Nat.lt_of_lt_of_le hdn hw.2)]
  have hset : (mWs G h).set d (G.1 + d, .inl (G.2.2.2.2 .int, mLen h d, .inl (va_cpy (hI h a) (hI h d) (mIx sp) (mIx dp) (mIx n)))) = mWs G (cpyI h a d sp dp n) := mWs_set rfl hdn (by
    rw [mEl_A (h := cpyI h a d sp dp n) (n := mLen h d) (ty := .int) sd]
    show Sum.inl (_, mLen h d, Sum.inl (hI (cpyI h a d sp dp n) d)) = _
    rw [show hI (cpyI h a d sp dp n) d = va_cpy (hI h a) (hI h d) (mIx sp) (mIx dp) (mIx n) from mup_at]) (fun j _ hj => mEl_eq rfl (mup_ne hj) rfl rfl)
  refine va_copyi (ty := .int) hx hcb (by rw [hml]; exact hv.1.symm) hown (hts _ he) (hts _ mw_tbl1.1) (hts _ mw_tbl1.2.1) (hts _ mw_tbl1.2.2) hK hw.1 mWs_D hS a d 0 0 (n0 := mLen h a) (n1 := mLen h d) (f := hI h a) (g := hI h d) (by rw [mWs_get ha, mEl_A sa]; rfl) (by rw [mWs_get hdn, mEl_A sd]; rfl) rfl rfl rfl c3 c4 c5 c6 c7 (fun _ _ => rfl) hfr.1 (by show 0 + _ ≤ R.locals; have := mw_native; omega) hd fun H1 locs1 hP1 _ hS1 => ?_
  have hP2 : va_P G.2.2.2.1 vwCl ((mWs G h).set d (G.1 + d, .inl (G.2.2.2.2 .int, mLen h d, .inl (va_cpy (hI h a) (hI h d) (mIx sp) (mIx dp) (mIx n))))) H1 := hP1
  rw [hset] at hP2
  exact k H1 locs1 ls ⟨hP2, hw.2⟩ hS1 hv h0 h1
end SH
end
section
/-! THE STEPS THAT MAKE CELLS. -/
section SM
variable {p : Program} {l : Launch} {e : Env} {R : Room} {s : State} {m : MethodId} {args : Array Value} {below : List Frame} {meth : Method} {c : Code} {Q : State → Prop} {cc : ByteArray} {own : String} {G : mG} {nL n0 w0 nM wM : Nat} {fin : Bool}
theorem mRo_NUL : va_rf (mRo G NUL) = .null := by
  unfold mRo
  rw [if_pos rfl]
  rfl
theorem mFv_new {h : mHp} {i k : Nat} {ty : FieldType} (hi : hI h i k = 0) (hj : hJ h i k = 0) (hr : hR h i k = NUL) (h1 : ty ≠ .float) (h2 : ty ≠ .double) : defaultValue ty = mFv G h i k ty := by
  cases ty with
  | float => exact absurd rfl h1
  | double => exact absurd rfl h2
  | long => show Value.long 0 = Value.long (hJ h i k); rw [hj]
  | object n => show Value.null = va_rf (mRo G (hR h i k)); rw [hr, mRo_NUL]
  | array t => show Value.null = va_rf (mRo G (hR h i k)); rw [hr, mRo_NUL]
  | _ => show Value.int 0 = Value.int (hI h i k); rw [hi]
theorem so_new (C : mCx p R s m args meth c G cc own nL fin nM wM n0 w0) {i pc a : Nat} {ok ok' : Bool} {L t : List Value} {h : mHp} (hd : decode cc pc = .ok (.new i, 3)) (he : ∃ r0 : vw_C, vwCl[a]? = some r0 ∧ Cond.classLink own i r0.1 ∈ mTb ∧ Cond.instantiable r0.1 r0.2.2 ∈ mTb ∧ Cond.initialized r0.1 ∈ mTb) (hn : hN h + 1 ≤ nM) (hm : hW h + mNf a ≤ wM)
    (k : mW p l e R s m args below meth c G nL n0 w0 Q (ok', pc + 3, L, .ref (hN h) :: t, newO h a (mNf a))) : mW p l e R s m args below meth c G nL n0 w0 Q (ok, pc, L, t, h) := by
  obtain ⟨r0, hc, g1, g2, g3⟩ := he
  have hA := mA_ge C
  obtain ⟨hx, hcb, hml, hown, hts, hK, hsz, hX, hnm, hfr, hfin⟩ := C
  intro H locs ls hw hQ hv h0 h1
  have h0 : n0 ≤ hN h := h0
  have h1 : w0 ≤ hW h := h1
  have hnf := mCl_nf hc
  refine W_sz fun hz => ?_
  have hsz2 : H.size = G.1 + hN h := mWd_sz hw hsz hz h0 hQ.1
  have hKn := hK.1 a _ hc
  refine W.newcK hx hcb hown (hts _ g1) (hts _ g2) (hts _ g3) rfl hd (by show hN h - n0 + 1 ≤ R.cells; omega) (by show hW h - w0 + r0.2.2 ≤ R.slots; omega) hKn.2.1 hsz2 fun H1 kC hkC e1 z1 o1 => ?_
  have hk : ∀ (k : Nat) (x : Nat × va_E), (mWs G h)[k]? = some x → H1[x.1]? = H[x.1]? := fun k x hx => o1 x.1 (by have := (hw.1 k x hx).lt; omega)
  have hS1 : hS (newO h a (mNf a)) (hN h) = .inl a := mup_at
  have hpush : mWs G h ++ [(G.1 + hN h, mEl G (newO h a (mNf a)) (hN h))] = mWs G (newO h a (mNf a)) := mWs_push rfl rfl (fun j hj => mEl_eq (mup_ne (by omega)) (mup_ne (by omega)) (mup_ne (by omega)) (mup_ne (by omega)))
  have hP1 : va_P G.2.2.2.1 vwCl (mWs G (newO h a (mNf a))) H1 := by
    rw [← hpush]
    refine (hw.1.kept hk).app (fun k x hx => ?_)
    have hz0 : k < 1 := (List.getElem?_eq_some_iff.mp hx).1
    rw [show k = 0 by omega] at hx
    cases hx
    rw [mEl_O hS1]
    refine ⟨_, hc, (u_born (mTy a) hts (mCl_in hc) hKn hkC e1 (mCl_ty hc)).to (fun j hj => ?_)⟩
    have hj2 : j < mNf a := by rw [hnf]; exact hj
    have hnf2 := mTy_nf0 a (mCl_lt hc) j hj2
    show defaultValue (mTy a j) = (List.getD _ j .null)
    rw [List.getD, mFs_get hj2]
    exact mFv_new (by show (va_up h.1 (hN h) (fun _ => 0)) (hN h) j = 0; rw [mup_at]) (by show (va_up h.2.1 (hN h) (fun _ => 0)) (hN h) j = 0; rw [mup_at]) (by show (va_up h.2.2.1 (hN h) (fun _ => NUL)) (hN h) j = NUL; rw [mup_at]) hnf2.1 hnf2.2
  have k1 := k H1 locs ls ⟨hP1, by show hN h + 1 ≤ 900000; omega⟩ ⟨by have := hQ.1; omega, fun x h3 h4 => (o1 x (by have := hQ.1; omega)).trans (hQ.2.1 x h3 h4), hQ.2.2⟩ hv (by show n0 ≤ hN h + 1; omega) (by show w0 ≤ hW h + mNf a; omega)
  have k2 : W p l e R s m args below meth c H1 locs (hN h + 1 - n0) (hW h + mNf a - w0) Q (F0 m (pc + 3) ls (mCv G (.ref (hN h)) :: t.map (mCv G))) := k1
  rw [mCv_ref (by omega), hnf] at k2
  have e5 : hN h - n0 + 1 = hN h + 1 - n0 := by omega
  have e6 : hW h - w0 + r0.2.2 = hW h + r0.2.2 - w0 := by omega
  show W p l e R s m args below meth c H1 locs (hN h - n0 + 1) (hW h - w0 + r0.2.2) Q (F0 m (pc + 3) ls (.ref (G.1 + hN h) :: t.map (mCv G)))
  rw [e5, e6]
  exact k2
theorem mK_arr (hK : va_K G.2.2.2.1 vwCl (mTys G) s) (ty : ArrayType) {cA : ClassId} (hb : newarray.typeOf ty = .int ∨ newarray.typeOf ty = .byte ∨ newarray.typeOf ty = .boolean ∨ newarray.typeOf ty = .long) (h : s.vm.findClass ("[" ++ (newarray.typeOf ty).toString) = some cA) : cA = G.2.2.2.2 (newarray.typeOf ty) := by
  rcases hb with e | e | e | e <;> rw [e] at h ⊢
  · exact Option.some.inj (h.symm.trans (hK.2 0 _ rfl).2)
  · exact Option.some.inj (h.symm.trans (hK.2 1 _ rfl).2)
  · exact Option.some.inj (h.symm.trans (hK.2 2 _ rfl).2)
  · exact Option.some.inj (h.symm.trans (hK.2 3 _ rfl).2)
theorem so_newa (C : mCx p R s m args meth c G cc own nL fin nM wM n0 w0) {pc : Nat} {ty : ArrayType} {n : Int32} {ok ok' : Bool} {L t : List Value} {h : mHp} (hd : decode cc pc = .ok (.newarray ty, 2)) (he : Cond.arrayClass (newarray.typeOf ty) ∈ mTb) (hty : newarray.typeOf ty = .int ∨ newarray.typeOf ty = .byte ∨ newarray.typeOf ty = .boolean ∨ newarray.typeOf ty = .long) (hn0 : ¬ n < 0) (hn1 : mIx n ≤ 60000000) (hn : hN h + 1 ≤ nM) (hm : hW h + mIx n ≤ wM)
    (k : mW p l e R s m args below meth c G nL n0 w0 Q (ok', pc + 2, L, .ref (hN h) :: t, newA h (newarray.typeOf ty) (mIx n))) : mW p l e R s m args below meth c G nL n0 w0 Q (ok, pc, L, .int n :: t, h) := by
  have hA := mA_ge C
  obtain ⟨hx, hcb, hml, hown, hts, hK, hsz, hX, hnm, hfr, hfin⟩ := C
  intro H locs ls hw hQ hv h0 h1
  have h0 : n0 ≤ hN h := h0
  have h1 : w0 ≤ hW h := h1
  refine W_sz fun hz => ?_
  have hsz2 : H.size = G.1 + hN h := mWd_sz hw hsz hz h0 hQ.1
  refine va_newaK hx hcb (hts _ he) rfl hd rfl hn0 (N := mIx n) rfl (by rcases hty with e | e | e | e <;> rw [e] <;> (show mIx n * _ ≤ _; simp only [componentBytes]; omega)) (by show hN h - n0 + 1 ≤ R.cells; omega) (by show hW h - w0 + mIx n ≤ R.slots; omega) hsz2 fun H1 cA e1 z1 o1 hAr hNm => ?_
  have hcA := mK_arr hK ty hty hNm
  subst hcA
  have hk : ∀ (k : Nat) (x : Nat × va_E), (mWs G h)[k]? = some x → H1[x.1]? = H[x.1]? := fun k x hx => o1 x.1 (by have := (hw.1 k x hx).lt; omega)
  have hS1 : hS (newA h (newarray.typeOf ty) (mIx n)) (hN h) = .inr (newarray.typeOf ty, mIx n) := mup_at
  have hpush : mWs G h ++ [(G.1 + hN h, mEl G (newA h (newarray.typeOf ty) (mIx n)) (hN h))] = mWs G (newA h (newarray.typeOf ty) (mIx n)) := mWs_push rfl rfl (fun j hj => mEl_eq (mup_ne (by omega)) (mup_ne (by omega)) (mup_ne (by omega)) (mup_ne (by omega)))
  have eI : hI (newA h (newarray.typeOf ty) (mIx n)) (hN h) = fun _ => 0 := mup_at
  have eJ : hJ (newA h (newarray.typeOf ty) (mIx n)) (hN h) = fun _ => 0 := mup_at
  have hP1 : va_P G.2.2.2.1 vwCl (mWs G (newA h (newarray.typeOf ty) (mIx n))) H1 := by
    rw [← hpush]
    refine (hw.1.kept hk).app (fun k x hx => ?_)
    have hz0 : k < 1 := (List.getElem?_eq_some_iff.mp hx).1
    rw [show k = 0 by omega] at hx
    cases hx
    rw [mEl_A hS1]
    show H1[G.1 + hN h]? = some (vp_cell (G.2.2.2.2 (newarray.typeOf ty)) (mAr G (newA h (newarray.typeOf ty) (mIx n)) (hN h) (mIx n) (newarray.typeOf ty)))
    rw [e1]
    have gen : ∀ ft : FieldType, (ft = .int ∨ ft = .byte ∨ ft = .boolean ∨ ft = .long) → ∀ h' : mHp, hI h' (hN h) = (fun _ => 0) → hJ h' (hN h) = (fun _ => 0) → arrV (G.2.2.2.2 ft) (mIx n) (fun _ => defaultValue ft) = vp_cell (G.2.2.2.2 ft) (mAr G h' (hN h) (mIx n) ft) := by
      intro ft hft h' q1 q2
      rcases hft with rfl | rfl | rfl | rfl
      · show _ = arrV _ _ (fun j => .int (hI h' (hN h) j)); rw [q1]; rfl
      · show _ = arrV _ _ (fun j => .int (hI h' (hN h) j)); rw [q1]; rfl
      · show _ = arrV _ _ (fun j => .int (hI h' (hN h) j)); rw [q1]; rfl
      · show _ = arrV _ _ (fun j => .long (hJ h' (hN h) j)); rw [q2]; rfl
    rw [gen _ hty _ eI eJ]
  have k1 := k H1 locs ls ⟨hP1, by show hN h + 1 ≤ 900000; omega⟩ ⟨by have := hQ.1; omega, fun x h3 h4 => (o1 x (by have := hQ.1; omega)).trans (hQ.2.1 x h3 h4), hQ.2.2⟩ hv (by show n0 ≤ hN h + 1; omega) (by show w0 ≤ hW h + mIx n; omega)
  have k2 : W p l e R s m args below meth c H1 locs (hN h + 1 - n0) (hW h + mIx n - w0) Q (F0 m (pc + 2) ls (mCv G (.ref (hN h)) :: t.map (mCv G))) := k1
  rw [mCv_ref (by omega)] at k2
  have e5 : hN h - n0 + 1 = hN h + 1 - n0 := by omega
  have e6 : hW h - w0 + mIx n = hW h + mIx n - w0 := by omega
  show W p l e R s m args below meth c H1 locs (hN h - n0 + 1) (hW h - w0 + mIx n) Q (F0 m (pc + 2) ls (.ref (G.1 + hN h) :: t.map (mCv G)))
  rw [e5, e6]
  exact k2
theorem mr_outer (c : ClassId) (N h0 : Nat) : ∀ i : Nat, Jvm.Free.Multi.outerC c N h0 i = arrV c N (fun j => va_rf (if j < i then some (h0 + 1 + j) else none))
  | 0 => by
    show ({ cls := c, slots := Array.replicate N .null, vm := .none } : Cell) = _
    rw [arrV_new]
    refine congrArg (arrV c N) (funext fun j => ?_)
    simp [va_rf]
  | i + 1 => by
    show (Jvm.Free.Multi.outerC c N h0 i).setSlot i (.ref (h0 + 1 + i)) = _
    rw [mr_outer c N h0 i, arrV_store]
    refine congrArg (arrV c N) (funext fun j => ?_)
    by_cases e : j = i
    · subst e
      simp [updV, va_rf]
    · by_cases h : j < i
      · simp [updV, e, h, Nat.lt_succ_of_lt h]
      · simp [updV, e, h, show ¬ j < i + 1 by omega]
theorem mw_tbl2 : Cond.arrayClass .int ∈ mTb := by decide +kernel
theorem mw_str1 : "[" ++ (FieldType.array .int).toString = "[[I" := by decide
theorem mw_str2 : (FieldType.array .int).toString = "[" ++ FieldType.int.toString := by decide
theorem so_mna (C : mCx p R s m args meth c G cc own nL fin nM wM n0 w0) {i pc : Nat} {n k : Int32} {ok ok' : Bool} {L t : List Value} {h : mHp} (hd : decode cc pc = .ok (.multianewarray i 2, 4)) (he : Cond.classLink own i "[[I" ∈ mTb) (hn0 : ¬ n < 0) (hk0 : ¬ k < 0) (hn1 : mIx n ≤ 60000000) (hk1 : mIx k ≤ 60000000) (hn : hN h + 1 + mIx n ≤ nM) (hm : hW h + mIx n + mIx n * mIx k ≤ wM)
    (kk : mW p l e R s m args below meth c G nL n0 w0 Q (ok', pc + 4, L, .ref (hN h) :: t, newM h (mIx n) (mIx k))) : mW p l e R s m args below meth c G nL n0 w0 Q (ok, pc, L, .int k :: .int n :: t, h) := by
  obtain ⟨hx, hcb, hml, hown, hts, hK, hsz, hX, hnm, hfr, hfin⟩ := C
  intro H locs ls hw hQ hv h0 h1
  have h0 : n0 ≤ hN h := h0
  have h1 : w0 ≤ hW h := h1
  refine W_sz fun hz => ?_
  have hsz2 : H.size = G.1 + hN h := mWd_sz hw hsz hz h0 hQ.1
  intro T hT Xs
  have Xs : Stand p l e R s m args below meth c T locs (hN h - n0) (hW h - w0) := Xs
  obtain ⟨vm₁, cA, comp, -, fA, fC, hO, -, X', step⟩ := Xs.multianewarray2F (ty := .int) hx hown (by rw [mw_str1]; exact hts _ he) (mAO_use hX.2.2.2) (hts _ mw_tbl2) (g := F0 m pc ls (.int k :: .int n :: t.map (mCv G))) rfl (by rw [hcb]; exact hd) rfl hn0 hk0 (by show mIx n * 4 ≤ _; omega) (by show mIx k * 4 ≤ _; omega) (by show mIx k ≤ _; omega) rfl rfl (by show hN h - n0 + (1 + mIx n) ≤ R.cells; omega) (by show hW h - w0 + (mIx n + mIx n * mIx k) ≤ R.slots; omega)
  have eA : cA = G.2.2.2.2 (.array .int) := Option.some.inj (fA.symm.trans (hK.2 4 _ rfl).2)
  have eC : comp = G.2.2.2.2 .int := by
    rw [mw_str2] at fC
    exact Option.some.inj (fC.symm.trans (hK.2 0 _ rfl).2)
  subst eA
  subst eC
  generalize hF : Jvm.Free.Multi.fill (T.setVm vm₁) (G.2.2.2.2 (.array .int)) (G.2.2.2.2 .int) n.toNatClampNeg k.toNatClampNeg (defaultValue .int) n.toNatClampNeg = F at X' step
  have hTh : (T.setVm vm₁).heap = H := hT
  obtain ⟨f1, f2, -, -⟩ := Jvm.Free.Multi.fill_facts (T.setVm vm₁) (G.2.2.2.2 (.array .int)) (G.2.2.2.2 .int) n.toNatClampNeg k.toNatClampNeg (defaultValue .int) n.toNatClampNeg
  rw [hF, hTh] at f1 f2
  have hold : ∀ x : Nat, x < H.size → F.heap[x]? = H[x]? := fun x hx => by
    have := Jvm.Free.Multi.fill_old (T.setVm vm₁) (G.2.2.2.2 (.array .int)) (G.2.2.2.2 .int) n.toNatClampNeg k.toNatClampNeg (defaultValue .int) (a := x) (by rw [hTh]; exact hx) n.toNatClampNeg
    rw [hF, hTh] at this
    exact this
  have hrow : ∀ j : Nat, j < mIx n → F.heap[H.size + 1 + j]? = some (arrV (G.2.2.2.2 .int) (mIx k) (fun _ => .int 0)) := fun j hj => by
    have := Jvm.Free.Multi.fill_inner (T.setVm vm₁) (G.2.2.2.2 (.array .int)) (G.2.2.2.2 .int) n.toNatClampNeg k.toNatClampNeg (defaultValue .int) n.toNatClampNeg j hj
    rw [hF, hTh] at this
    rw [this]
    show some ({ cls := _, slots := Array.replicate _ _, vm := .none } : Cell) = _
    rw [arrV_new]
    rfl
  rw [mr_outer] at f2
  have hP1 : va_P G.2.2.2.1 vwCl (mWs G (newM h (mIx n) (mIx k))) F.heap := by
    intro j q hj
    have hjl : j < hN h + 1 + mIx n := by
      have := (List.getElem?_eq_some_iff.mp hj).1
      rw [mWs_len] at this
      exact this
    rw [mWs_get (h := newM h (mIx n) (mIx k)) hjl] at hj
    cases hj
    by_cases c1 : j < hN h
    · have e1 : mEl G (newM h (mIx n) (mIx k)) j = mEl G h j := mEl_eq (if_neg (by omega)) (if_neg (by omega)) (if_neg (by omega)) (if_neg (by omega))
      rw [e1]
      exact (hw.1 j _ (mWs_get c1)).kept (hold _ (by show G.1 + j < H.size; omega))
    · by_cases c2 : j = hN h
      · subst c2
        have e1 : hS (newM h (mIx n) (mIx k)) (hN h) = .inr (.array .int, mIx n) := (if_pos (Nat.le_refl _)).trans (if_pos rfl)
        have e2 : hR (newM h (mIx n) (mIx k)) (hN h) = fun j => if j < mIx n then hN h + 1 + j else NUL := (if_pos (Nat.le_refl _)).trans (if_pos rfl)
        rw [mEl_A e1]
        show F.heap[G.1 + hN h]? = some (arrV (G.2.2.2.2 (.array .int)) (mIx n) (fun j => va_rf (mRo G (hR (newM h (mIx n) (mIx k)) (hN h) j))))
        rw [← hsz2, f2, e2]
        refine congrArg (fun z => some (arrV _ _ z)) (funext fun j => ?_)
        show va_rf (if j < mIx n then some (H.size + 1 + j) else none) = va_rf (mRo G (if j < mIx n then hN h + 1 + j else NUL))
        by_cases c3 : j < mIx n
        · rw [if_pos c3, if_pos c3]
          unfold mRo mAd NUL
          rw [if_neg (by omega), if_pos (by omega)]
          rw [show H.size + 1 + j = G.1 + (hN h + 1 + j) by omega]
        · rw [if_neg c3, if_neg c3, mRo_NUL]
          rfl
      · have e1 : hS (newM h (mIx n) (mIx k)) j = .inr (.int, mIx k) := (if_pos (by omega)).trans (if_neg c2)
        have e2 : hI (newM h (mIx n) (mIx k)) j = fun _ => 0 := if_pos (by omega)
        rw [mEl_A e1]
        show F.heap[G.1 + j]? = some (arrV (G.2.2.2.2 .int) (mIx k) (fun a => .int (hI (newM h (mIx n) (mIx k)) j a)))
        rw [e2, show G.1 + j = H.size + 1 + (j - hN h - 1) by omega, hrow _ (by omega)]
  have k1 := kk F.heap locs ls ⟨hP1, by show hN h + 1 + mIx n ≤ 900000; omega⟩ ⟨by rw [f1]; have := hQ.1; omega, fun x h3 h4 => (hold x (by have := hQ.1; omega)).trans (hQ.2.1 x h3 h4), hQ.2.2⟩ hv (by show n0 ≤ hN h + 1 + mIx n; omega) (by show w0 ≤ hW h + mIx n + mIx n * mIx k; omega)
  have k2 : W p l e R s m args below meth c F.heap locs (hN h + 1 + mIx n - n0) (hW h + mIx n + mIx n * mIx k - w0) Q (F0 m (pc + 4) ls (mCv G (.ref (hN h)) :: t.map (mCv G))) := k1
  rw [mCv_ref (by omega), show hN h + 1 + mIx n - n0 = hN h - n0 + 1 + mIx n by omega, show hW h + mIx n + mIx n * mIx k - w0 = hW h - w0 + mIx n + mIx n * mIx k by omega] at k2
  obtain ⟨tt, a1, b1⟩ := k2 F rfl X'
  refine ⟨tt, step tt ?_, b1⟩
  rw [show T.heap.size = G.1 + hN h by rw [hT]; exact hsz2]
  exact a1
end SM
end
section
/-! ANY ROW; A STRETCH OF ROWS. -/
set_option maxRecDepth 100000 in
theorem mw_obj : Cond.instanceMethod objectInit ∈ mTb ∧ Cond.code objectInit ⟨#[0xb1]⟩ 1 none ∈ mTb := by decide +kernel
section SD
variable {p : Program} {l : Launch} {e : Env} {R : Room} {s : State} {m : MethodId} {args : Array Value} {below : List Frame} {meth : Method} {c : Code} {Q : State → Prop} {cc : ByteArray} {own : String} {G : mG} {nL n0 w0 nM wM : Nat} {fin : Bool}
set_option maxHeartbeats 4000000 in
theorem mst_ok (C : mCx p R s m args meth c G cc own nL fin nM wM n0 w0) {q : mI} (hd : decode cc q.1 = .ok (q.2.1, q.2.2.1)) (hlen : mLok q = true) (hsta : mSta nL fin q = true) (he : mEnt own q) {f : mC} (hpc : f.2.1 = q.1) (hok : (mst nL fin nM wM q f).1 = true)
    (k : mW p l e R s m args below meth c G nL n0 w0 Q (mst nL fin nM wM q f)) : mW p l e R s m args below meth c G nL n0 w0 Q f := by
  obtain ⟨pc, ins, len, a, b⟩ := q
  obtain ⟨ok, pc0, L, st, h⟩ := f
  simp only at hpc hd
  subst hpc
  have hx := C.1
  have hb := C.2.1
  have hown := C.2.2.2.1
  have hts := C.2.2.2.2.1
  cases ins
  case iconst n =>
    obtain rfl : len = 1 := by simpa [mLok, mIl] using hlen
    intro H locs ls hw hQ hv h0 h1
    exact lv_iconst hx hb hd rfl (k H locs ls hw hQ hv h0 h1)
  case bipush n =>
    obtain rfl : len = 2 := by simpa [mLok, mIl] using hlen
    intro H locs ls hw hQ hv h0 h1
    exact lv_bipush hx hb hd rfl (k H locs ls hw hQ hv h0 h1)
  case sipush n =>
    obtain rfl : len = 3 := by simpa [mLok, mIl] using hlen
    intro H locs ls hw hQ hv h0 h1
    exact lv_sipush hx hb hd rfl (k H locs ls hw hQ hv h0 h1)
  case lconst n =>
    obtain rfl : len = 1 := by simpa [mLok, mIl] using hlen
    intro H locs ls hw hQ hv h0 h1
    exact lv_lconst hx hb hd rfl (k H locs ls hw hQ hv h0 h1)
  case ldc i =>
    obtain rfl : len = 2 := by simpa [mLok, mIl] using hlen
    by_cases hb0 : b = 0
    · subst hb0
      intro H locs ls hw hQ hv h0 h1
      exact lv_ldc hx hb hown (hts _ he) hd (k H locs ls hw hQ hv h0 h1)
    · have he2 : own = RX4 ∧ ∃ tx, mSt[a]? = some (i, tx) := by
        have he3 : (if b = 0 then Cond.constant own i (Int32.ofNat a) ∈ mTb else own = RX4 ∧ ∃ tx, mSt[a]? = some (i, tx)) := he
        rw [if_neg hb0] at he3
        exact he3
      obtain ⟨ho, tx, hst⟩ := he2
      have ek : mst nL fin nM wM (pc0, .ldc i, 2, a, b) (ok, pc0, L, st, h) = (ok, pc0 + 2, L, .ref (900000 + a) :: st, h) := if_neg hb0
      rw [ek] at k
      intro H locs ls hw hQ hv h0 h1
      have hal : a < 15 := (List.getElem?_eq_some_iff.mp hst).1
      have k1 := k H locs ls hw hQ hv h0 h1
      have k2 : W p l e R s m args below meth c H locs (hN h - n0) (hW h - w0) Q (F0 m (pc0 + 2) ls (mCv G (.ref (900000 + a)) :: st.map (mCv G))) := k1
      have ec : mCv G (.ref (900000 + a)) = .ref (G.2.1 a) := by
        show va_rf (mRo G (900000 + a)) = _
        unfold mRo mAd NUL
        rw [if_neg (by omega), if_neg (by omega), Nat.add_sub_cancel_left]
        rfl
      rw [ec] at k2
      have hR4 := C.2.2.2.2.2.2.2.1.1 a _ hst
      rw [← ho] at hR4
      exact va_ldcS hx hb hown hR4 hd k2
  case ldc_w i =>
    obtain rfl : len = 3 := by simpa [mLok, mIl] using hlen
    intro H locs ls hw hQ hv h0 h1
    exact lv_ldcw hx hb hown (hts _ he) hd (k H locs ls hw hQ hv h0 h1)
  case ldc2_w i =>
    obtain rfl : len = 3 := by simpa [mLok, mIl] using hlen
    intro H locs ls hw hQ hv h0 h1
    exact lv_ldc2 hx hb hown (hts _ he) hd (k H locs ls hw hQ hv h0 h1)
  case iload i =>
    obtain rfl : len = 2 := by simpa [mLok, mIl] using hlen
    exact so_ld hok k (fun _ x H locs cells slots ls rest hl kk => lv_iload hx hb hd hl kk) (fun z => by cases z) (fun z => by cases z)
  case iload_n i =>
    obtain rfl : len = 1 := by simpa [mLok, mIl] using hlen
    exact so_ld hok k (fun _ x H locs cells slots ls rest hl kk => lv_iload_n hx hb hd rfl hl kk) (fun z => by cases z) (fun z => by cases z)
  case aload i =>
    obtain rfl : len = 2 := by simpa [mLok, mIl] using hlen
    exact so_ld hok k (fun z => by cases z) (fun _ x H locs cells slots ls rest hl kk => so_aload hx hb hd hl kk) (fun z => by cases z)
  case aload_n i =>
    obtain rfl : len = 1 := by simpa [mLok, mIl] using hlen
    exact so_ld hok k (fun z => by cases z) (fun _ x H locs cells slots ls rest hl kk => so_aload_n hx hb hd hl kk) (fun z => by cases z)
  case lload i =>
    obtain rfl : len = 2 := by simpa [mLok, mIl] using hlen
    exact so_ld hok k (fun z => by cases z) (fun z => by cases z) (fun _ x H locs cells slots ls rest hl kk => lv_lload hx hb hd hl kk)
  case lload_n i =>
    obtain rfl : len = 1 := by simpa [mLok, mIl] using hlen
    exact so_ld hok k (fun z => by cases z) (fun z => by cases z) (fun _ x H locs cells slots ls rest hl kk => lv_lload_n hx hb hd rfl hl kk)
  case istore i =>
    obtain rfl : len = 2 := by simpa [mLok, mIl] using hlen
    exact so_sto (of_decide_eq_true hsta) (fun z => by cases z) hok k (fun _ hn x H locs cells slots ls rest lv hl kk => lv_istore hx hb hd hl hn rfl kk) (fun z => by cases z) (fun z => by cases z)
  case istore_n i =>
    obtain rfl : len = 1 := by simpa [mLok, mIl] using hlen
    exact so_sto (of_decide_eq_true hsta) (fun z => by cases z) hok k (fun _ hn x H locs cells slots ls rest lv hl kk => lv_istore_n hx hb hd rfl hl hn rfl kk) (fun z => by cases z) (fun z => by cases z)
  case astore i =>
    obtain rfl : len = 2 := by simpa [mLok, mIl] using hlen
    exact so_sto (of_decide_eq_true hsta) (fun z => by cases z) hok k (fun z => by cases z) (fun _ hn x H locs cells slots ls rest lv hl kk => so_astore hx hb hd hn hl kk) (fun z => by cases z)
  case astore_n i =>
    obtain rfl : len = 1 := by simpa [mLok, mIl] using hlen
    exact so_sto (of_decide_eq_true hsta) (fun z => by cases z) hok k (fun z => by cases z) (fun _ hn x H locs cells slots ls rest lv hl kk => so_astore_n hx hb hd hn hl kk) (fun z => by cases z)
  case lstore i =>
    obtain rfl : len = 2 := by simpa [mLok, mIl] using hlen
    exact so_sto (Nat.lt_of_succ_lt (of_decide_eq_true hsta)) (fun _ => of_decide_eq_true hsta) hok k (fun z => by cases z) (fun z => by cases z) (fun _ hn x H locs cells slots ls rest lv hl kk => lv_lstore hx hb hd hl hn rfl kk)
  case lstore_n i =>
    obtain rfl : len = 1 := by simpa [mLok, mIl] using hlen
    exact so_sto (Nat.lt_of_succ_lt (of_decide_eq_true hsta)) (fun _ => of_decide_eq_true hsta) hok k (fun z => by cases z) (fun z => by cases z) (fun _ hn x H locs cells slots ls rest lv hl kk => lv_lstore_n hx hb hd rfl hl hn rfl kk)
  case iinc i n =>
    obtain rfl : len = 3 := by simpa [mLok, mIl] using hlen
    have hok2 : (match L.getD i (.retAddr 0) with
      | .int x => ((ok, pc0 + 3, (mFix L i).set i (.int (x + Int32.ofInt n)), st, h) : mC)
      | _ => mBad h).1 = true := hok
    have k2 : mW p l e R s m args below meth c G nL n0 w0 Q (match L.getD i (.retAddr 0) with
      | .int x => ((ok, pc0 + 3, (mFix L i).set i (.int (x + Int32.ofInt n)), st, h) : mC)
      | _ => mBad h) := k
    split at hok2
    · rename_i x ex
      rw [ex] at k2
      intro H locs ls hw hQ hv h0 h1
      have hil : i < L.length := by
        rcases Nat.lt_or_ge i L.length with z | z
        · exact z
        · rw [show L.getD i (.retAddr 0) = .retAddr 0 by simp [List.getD, List.getElem?_eq_none z]] at ex
          cases ex
      have hmem : (i, Value.int x) ∈ mLv G L := mLv_mem.mpr ⟨.int x, hil, ex, (fun n z => by cases z), rfl⟩
      obtain ⟨kx, hkx⟩ := List.getElem?_of_mem hmem
      exact lv_iinc hx hb hd hv hkx rfl (of_decide_eq_true hsta) rfl (fun ls' hl' => k2 H locs ls' hw hQ (mLv_set (v := .int (x + Int32.ofInt n)) hl') h0 h1)
    · cases hok2
  case dup =>
    obtain rfl : len = 1 := by simpa [mLok, mIl] using hlen
    have hok2 : (c_dup nL fin nM wM pc0 a b ok L st h).1 = true := hok
    have k2 : mW p l e R s m args below meth c G nL n0 w0 Q (c_dup nL fin nM wM pc0 a b ok L st h) := k
    unfold c_dup at hok2 k2
    split at hok2
    · intro H locs ls hw hQ hv h0 h1
      exact lv_dup hx hb hd (by rw [mCv_cat]; rfl) (k2 H locs ls hw hQ hv h0 h1)
    · intro H locs ls hw hQ hv h0 h1
      exact lv_dup hx hb hd (by rw [mCv_cat]; rfl) (k2 H locs ls hw hQ hv h0 h1)
    · cases hok2
  case pop =>
    obtain rfl : len = 1 := by simpa [mLok, mIl] using hlen
    have hok2 : (c_pop nL fin nM wM pc0 a b ok L st h).1 = true := hok
    have k2 : mW p l e R s m args below meth c G nL n0 w0 Q (c_pop nL fin nM wM pc0 a b ok L st h) := k
    unfold c_pop at hok2 k2
    split at hok2
    · intro H locs ls hw hQ hv h0 h1
      exact lv_pop hx hb hd (by rw [mCv_cat]; rfl) (k2 H locs ls hw hQ hv h0 h1)
    · intro H locs ls hw hQ hv h0 h1
      exact lv_pop hx hb hd (by rw [mCv_cat]; rfl) (k2 H locs ls hw hQ hv h0 h1)
    · cases hok2
  case dup2 =>
    obtain rfl : len = 1 := by simpa [mLok, mIl] using hlen
    have hok2 : (c_dup2 nL fin nM wM pc0 a b ok L st h).1 = true := hok
    have k2 : mW p l e R s m args below meth c G nL n0 w0 Q (c_dup2 nL fin nM wM pc0 a b ok L st h) := k
    unfold c_dup2 at hok2 k2
    split at hok2
    · intro H locs ls hw hQ hv h0 h1
      exact lv_dup2_11 hx hb hd (by rw [mCv_cat]; rfl) (by rw [mCv_cat]; rfl) (k2 H locs ls hw hQ hv h0 h1)
    · cases hok2
  case idiv =>
    obtain rfl : len = 1 := by simpa [mLok, mIl] using hlen
    obtain ⟨y, x, r, rfl⟩ := mU2_ok (st := st) hok rfl
    have hok2 : (decide (¬ y = 0) && ok) = true := hok
    simp only [Bool.and_eq_true, decide_eq_true_eq] at hok2
    intro H locs ls hw hQ hv h0 h1
    exact lv_idiv hx hb hd hok2.1 (k H locs ls hw hQ hv h0 h1)
  case irem =>
    obtain rfl : len = 1 := by simpa [mLok, mIl] using hlen
    obtain ⟨y, x, r, rfl⟩ := mU2_ok (st := st) hok rfl
    have hok2 : (decide (¬ y = 0) && ok) = true := hok
    simp only [Bool.and_eq_true, decide_eq_true_eq] at hok2
    intro H locs ls hw hQ hv h0 h1
    exact lv_irem hx hb hd hok2.1 (k H locs ls hw hQ hv h0 h1)
  case iadd =>
    obtain rfl : len = 1 := by simpa [mLok, mIl] using hlen
    obtain ⟨y, x, r, rfl⟩ := mU2_ok (st := st) hok rfl
    intro H locs ls hw hQ hv h0 h1
    exact lv_iadd hx hb hd (k H locs ls hw hQ hv h0 h1)
  case isub =>
    obtain rfl : len = 1 := by simpa [mLok, mIl] using hlen
    obtain ⟨y, x, r, rfl⟩ := mU2_ok (st := st) hok rfl
    intro H locs ls hw hQ hv h0 h1
    exact lv_isub hx hb hd (k H locs ls hw hQ hv h0 h1)
  case imul =>
    obtain rfl : len = 1 := by simpa [mLok, mIl] using hlen
    obtain ⟨y, x, r, rfl⟩ := mU2_ok (st := st) hok rfl
    intro H locs ls hw hQ hv h0 h1
    exact lv_imul hx hb hd (k H locs ls hw hQ hv h0 h1)
  case iand =>
    obtain rfl : len = 1 := by simpa [mLok, mIl] using hlen
    obtain ⟨y, x, r, rfl⟩ := mU2_ok (st := st) hok rfl
    intro H locs ls hw hQ hv h0 h1
    exact lv_iand hx hb hd (k H locs ls hw hQ hv h0 h1)
  case ior =>
    obtain rfl : len = 1 := by simpa [mLok, mIl] using hlen
    obtain ⟨y, x, r, rfl⟩ := mU2_ok (st := st) hok rfl
    intro H locs ls hw hQ hv h0 h1
    exact lv_ior hx hb hd (k H locs ls hw hQ hv h0 h1)
  case ixor =>
    obtain rfl : len = 1 := by simpa [mLok, mIl] using hlen
    obtain ⟨y, x, r, rfl⟩ := mU2_ok (st := st) hok rfl
    intro H locs ls hw hQ hv h0 h1
    exact lv_ixor hx hb hd (k H locs ls hw hQ hv h0 h1)
  case ishl =>
    obtain rfl : len = 1 := by simpa [mLok, mIl] using hlen
    obtain ⟨y, x, r, rfl⟩ := mU2_ok (st := st) hok rfl
    intro H locs ls hw hQ hv h0 h1
    exact lv_ishl hx hb hd (k H locs ls hw hQ hv h0 h1)
  case ishr =>
    obtain rfl : len = 1 := by simpa [mLok, mIl] using hlen
    obtain ⟨y, x, r, rfl⟩ := mU2_ok (st := st) hok rfl
    intro H locs ls hw hQ hv h0 h1
    exact lv_ishr hx hb hd (k H locs ls hw hQ hv h0 h1)
  case ladd =>
    obtain rfl : len = 1 := by simpa [mLok, mIl] using hlen
    obtain ⟨y, x, r, rfl⟩ := mUll_ok (st := st) hok rfl
    intro H locs ls hw hQ hv h0 h1
    exact lv_ladd hx hb hd (k H locs ls hw hQ hv h0 h1)
  case lmul =>
    obtain rfl : len = 1 := by simpa [mLok, mIl] using hlen
    obtain ⟨y, x, r, rfl⟩ := mUll_ok (st := st) hok rfl
    intro H locs ls hw hQ hv h0 h1
    exact lv_lmul hx hb hd (k H locs ls hw hQ hv h0 h1)
  case lor =>
    obtain rfl : len = 1 := by simpa [mLok, mIl] using hlen
    obtain ⟨y, x, r, rfl⟩ := mUll_ok (st := st) hok rfl
    intro H locs ls hw hQ hv h0 h1
    exact lv_lor hx hb hd (k H locs ls hw hQ hv h0 h1)
  case lcmp =>
    obtain rfl : len = 1 := by simpa [mLok, mIl] using hlen
    obtain ⟨y, x, r, rfl⟩ := mUll_ok (st := st) hok rfl
    intro H locs ls hw hQ hv h0 h1
    exact W.lcmp hx hb hd (k H locs ls hw hQ hv h0 h1)
  case i2l =>
    obtain rfl : len = 1 := by simpa [mLok, mIl] using hlen
    obtain ⟨x, r, rfl⟩ := mU1_ok (st := st) hok rfl
    intro H locs ls hw hQ hv h0 h1
    exact lv_i2l hx hb hd rfl (k H locs ls hw hQ hv h0 h1)
  case i2b =>
    obtain rfl : len = 1 := by simpa [mLok, mIl] using hlen
    obtain ⟨x, r, rfl⟩ := mU1_ok (st := st) hok rfl
    intro H locs ls hw hQ hv h0 h1
    exact lv_i2b hx hb hd rfl (k H locs ls hw hQ hv h0 h1)
  case i2c =>
    obtain rfl : len = 1 := by simpa [mLok, mIl] using hlen
    obtain ⟨x, r, rfl⟩ := mU1_ok (st := st) hok rfl
    intro H locs ls hw hQ hv h0 h1
    exact lv_i2c hx hb hd rfl (k H locs ls hw hQ hv h0 h1)
  case iushr =>
    obtain rfl : len = 1 := by simpa [mLok, mIl] using hlen
    obtain ⟨y, x, r, rfl⟩ := mU2_ok (st := st) hok rfl
    intro H locs ls hw hQ hv h0 h1
    exact lv_iushr hx hb hd rfl (k H locs ls hw hQ hv h0 h1)
  case lshl =>
    obtain rfl : len = 1 := by simpa [mLok, mIl] using hlen
    obtain ⟨y, r, rfl⟩ := mU1_ok (st := st) hok rfl
    obtain ⟨x, r, rfl⟩ := mUl_ok (st := r) (bad := mBad h) hok rfl
    intro H locs ls hw hQ hv h0 h1
    exact lv_lshl hx hb hd rfl (k H locs ls hw hQ hv h0 h1)
  case goto off =>
    obtain rfl : len = 3 := by simpa [mLok, mIl] using hlen
    intro H locs ls hw hQ hv h0 h1
    exact lv_goto hx hb hd (mTk_ok hsta) (k H locs ls hw hQ hv h0 h1)
  case if_icmp cnd off =>
    obtain rfl : len = 3 := by simpa [mLok, mIl] using hlen
    obtain ⟨y, x, r, rfl⟩ := mU2_ok (st := st) hok rfl
    intro H locs ls hw hQ hv h0 h1
    exact so_icmp hx hb hd (mTk_ok hsta) (k H locs ls hw hQ hv h0 h1)
  case ifCond cnd off =>
    obtain rfl : len = 3 := by simpa [mLok, mIl] using hlen
    obtain ⟨x, r, rfl⟩ := mU1_ok (st := st) hok rfl
    intro H locs ls hw hQ hv h0 h1
    exact so_icnd hx hb hd (mTk_ok hsta) (k H locs ls hw hQ hv h0 h1)
  case tableswitch d lo hi os =>
    obtain ⟨x, r, rfl⟩ := mU1_ok (st := st) hok rfl
    have hok2 : ((d :: os.toList).all (fun o => mTk pc0 o) && (decide (hi - lo + 1 = (os.toList.length : Int)) && decide (-2147483648 ≤ lo ∧ hi ≤ 2147483647))) = true := hsta
    simp only [Bool.and_eq_true, decide_eq_true_eq] at hok2
    obtain ⟨g1, g2, g3⟩ := hok2
    rw [List.all_eq_true] at g1
    intro H locs ls hw hQ hv h0 h1
    have k1 := k H locs ls hw hQ hv h0 h1
    have k2 : W p l e R s m args below meth c H locs (hN h - n0) (hW h - w0) Q (F0 m (mTab pc0 os.toList lo d x) ls (r.map (mCv G))) := k1
    by_cases hin : x.toInt < lo ∨ hi < x.toInt
    · rw [mTab_out os.toList lo g3.1 (by omega) (by omega)] at k2
      exact lv_tableOut hx hb hd hin (mTk_ok (g1 d List.mem_cons_self)) k2
    · obtain ⟨o, q1, q2⟩ := mTab_in (pc := pc0) (d := d) (x := x) os.toList lo g3.1 (by omega) (by omega) (by omega)
      rw [q2] at k2
      exact lv_tableIn hx hb hd (by omega) (by omega) (by rw [← Array.getElem?_toList]; exact q1) (mTk_ok (g1 o (List.mem_cons_of_mem _ (List.mem_of_getElem? q1)))) k2
  case lookupswitch d ps =>
    obtain ⟨x, r, rfl⟩ := mU1_ok (st := st) hok rfl
    have hok2 : ((d :: ps.toList.map (fun q => q.2)).all (fun o => mTk pc0 o) && (ps.toList.zip (ps.toList.drop 1)).all (fun (a, next) => a.1 < next.1)) = true := hsta
    rw [Bool.and_eq_true, List.all_eq_true] at hok2
    intro H locs ls hw hQ hv h0 h1
    obtain ⟨g1, g2⟩ := mLkp_eq (pc := pc0) (d := d) (x := x) ps.toList
    have k1 := k H locs ls hw hQ hv h0 h1
    have k2 : W p l e R s m args below meth c H locs (hN h - n0) (hW h - w0) Q (F0 m (mLkp pc0 ps.toList d x) ls (r.map (mCv G))) := k1
    rw [g1] at k2
    refine lv_lookup hx hb hd hok2.2 rfl (mTk_ok (hok2.1 _ ?_)) k2
    rcases g2 with g2 | g2
    · rw [g2]; exact List.mem_cons_self
    · exact List.mem_cons_of_mem _ g2
  case getfield i =>
    obtain rfl : len = 3 := by simpa [mLok, mIl] using hlen
    obtain ⟨r, t, rfl⟩ := mUr_ok (st := st) hok rfl
    have hok2 : (chO h r a && ok) = true := hok
    rw [Bool.and_eq_true] at hok2
    obtain ⟨g1, g2⟩ := chO_ok hok2.1
    exact so_get C hd he g1 g2 (of_decide_eq_true hsta) k
  case putfield i =>
    obtain rfl : len = 3 := by simpa [mLok, mIl] using hlen
    obtain ⟨v, r, t, rfl⟩ := mUvr_ok (st := st) hok rfl
    have hsta2 : (decide (b < mNf a) && (!(mFin a b) || fin)) = true := hsta
    rw [Bool.and_eq_true] at hsta2
    have hbn := of_decide_eq_true hsta2.1
    have hok2 : (mPutB (mTy a b) v ok pc0 L t h r a b).1 = true := hok
    have k2 : mW p l e R s m args below meth c G nL n0 w0 Q (mPutB (mTy a b) v ok pc0 L t h r a b) := k
    unfold mPutB at hok2 k2
    split at hok2
    · rename_i x ht
      rw [ht] at k2
      rw [Bool.and_eq_true] at hok2
      obtain ⟨g1, g2⟩ := chO_ok hok2.1
      exact so_put C hd he g1 g2 hbn hsta2.2 (mPF_I ht (Or.inl rfl) g2 rfl) k2
    · rename_i x ht
      rw [ht] at k2
      rw [Bool.and_eq_true, Bool.and_eq_true] at hok2
      obtain ⟨g1, g2⟩ := chO_ok hok2.2.1
      exact so_put C hd he g1 g2 hbn hsta2.2 (mPF_I ht (Or.inr (Or.inl rfl)) g2 hok2.1) k2
    · rename_i x ht
      rw [ht] at k2
      rw [Bool.and_eq_true, Bool.and_eq_true] at hok2
      obtain ⟨g1, g2⟩ := chO_ok hok2.2.1
      exact so_put C hd he g1 g2 hbn hsta2.2 (mPF_I ht (Or.inr (Or.inr rfl)) g2 hok2.1) k2
    · rename_i x ht
      rw [ht] at k2
      rw [Bool.and_eq_true] at hok2
      obtain ⟨g1, g2⟩ := chO_ok hok2.1
      exact so_put C hd he g1 g2 hbn hsta2.2 (mPF_J ht g2) k2
    · rename_i n x ht
      rw [ht] at k2
      rw [Bool.and_eq_true] at hok2
      obtain ⟨g1, g2⟩ := chO_ok hok2.1
      exact so_put C hd he g1 g2 hbn hsta2.2 (mPF_R (Or.inl ⟨_, ht⟩) g2) k2
    · rename_i n x ht
      rw [ht] at k2
      rw [Bool.and_eq_true] at hok2
      obtain ⟨g1, g2⟩ := chO_ok hok2.1
      exact so_put C hd he g1 g2 hbn hsta2.2 (mPF_R (Or.inr ⟨_, ht⟩) g2) k2
    · cases hok2
  case iaload =>
    obtain rfl : len = 1 := by simpa [mLok, mIl] using hlen
    obtain ⟨i, r, t, rfl⟩ := mUir_ok (st := st) hok rfl
    have hok2 : (chI h r i && ok) = true := hok
    rw [Bool.and_eq_true] at hok2
    obtain ⟨g1, n, g2, g3⟩ := chI_ok hok2.1
    exact so_iald C hd g1 g2 g3 k
  case baload =>
    obtain rfl : len = 1 := by simpa [mLok, mIl] using hlen
    obtain ⟨i, r, t, rfl⟩ := mUir_ok (st := st) hok rfl
    have hok2 : (chB h r i && ok) = true := hok
    rw [Bool.and_eq_true] at hok2
    obtain ⟨g1, n, g2, g3⟩ := chB_ok hok2.1
    exact so_bald C hd g1 g2 g3 k
  case laload =>
    obtain rfl : len = 1 := by simpa [mLok, mIl] using hlen
    obtain ⟨i, r, t, rfl⟩ := mUir_ok (st := st) hok rfl
    have hok2 : (chJ h r i && ok) = true := hok
    rw [Bool.and_eq_true] at hok2
    obtain ⟨g1, n, g2, g3⟩ := chJ_ok hok2.1
    exact so_lald C hd g1 g2 g3 k
  case aaload =>
    obtain rfl : len = 1 := by simpa [mLok, mIl] using hlen
    obtain ⟨i, r, t, rfl⟩ := mUir_ok (st := st) hok rfl
    have hok2 : (chR h r i && ok) = true := hok
    rw [Bool.and_eq_true] at hok2
    obtain ⟨g1, n, g2, g3⟩ := chR_ok hok2.1
    exact so_aald C hd g1 g2 g3 k
  case iastore =>
    obtain rfl : len = 1 := by simpa [mLok, mIl] using hlen
    obtain ⟨v, i, r, t, rfl⟩ := mUxir_ok (st := st) hok rfl
    cases v with
    | int x =>
      have hok2 : (chI h r i && ok) = true := hok
      rw [Bool.and_eq_true] at hok2
      obtain ⟨g1, n, g2, g3⟩ := chI_ok hok2.1
      exact so_iast C hd g1 g2 g3 k
    | _ => cases hok
  case bastore =>
    obtain rfl : len = 1 := by simpa [mLok, mIl] using hlen
    obtain ⟨v, i, r, t, rfl⟩ := mUxir_ok (st := st) hok rfl
    cases v with
    | int x =>
      have hok2 : (chB h r i && ok) = true := hok
      rw [Bool.and_eq_true] at hok2
      obtain ⟨g1, n, g2, g3⟩ := chB_ok hok2.1
      exact so_bast C hd g1 g2 g3 k
    | _ => cases hok
  case lastore =>
    obtain rfl : len = 1 := by simpa [mLok, mIl] using hlen
    obtain ⟨v, i, r, t, rfl⟩ := mUxir_ok (st := st) hok rfl
    cases v with
    | long x =>
      have hok2 : (chJ h r i && ok) = true := hok
      rw [Bool.and_eq_true] at hok2
      obtain ⟨g1, n, g2, g3⟩ := chJ_ok hok2.1
      exact so_last C hd g1 g2 g3 k
    | _ => cases hok
  case arraylength =>
    obtain rfl : len = 1 := by simpa [mLok, mIl] using hlen
    obtain ⟨r, t, rfl⟩ := mUr_ok (st := st) hok rfl
    have hok2 : (chL h r && ok) = true := hok
    rw [Bool.and_eq_true] at hok2
    obtain ⟨g1, g2⟩ := chL_ok hok2.1
    exact so_alen C hd g1 g2 k
  case invokestatic i =>
    obtain rfl : len = 3 := by simpa [mLok, mIl] using hlen
    have hok2 : (c_invokestatic nL fin nM wM pc0 a b ok L st h).1 = true := hok
    have k2 : mW p l e R s m args below meth c G nL n0 w0 Q (c_invokestatic nL fin nM wM pc0 a b ok L st h) := k
    unfold c_invokestatic at hok2 k2
    cases hb7 : Nat.beq b 7777
    · rw [hb7] at hok2
      cases hok2
    · rw [hb7] at hok2 k2
      simp only [cond_true] at hok2 k2
      split at hok2
      · rw [Bool.and_eq_true] at hok2
        exact so_copy C hd (he (Nat.eq_of_beq_eq_true hb7)) hok2.1 k2
      · cases hok2
  case invokespecial i =>
    obtain rfl : len = 3 := by simpa [mLok, mIl] using hlen
    have hok2 : (c_invokespecial nL fin nM wM pc0 a b ok L st h).1 = true := hok
    have k2 : mW p l e R s m args below meth c G nL n0 w0 Q (c_invokespecial nL fin nM wM pc0 a b ok L st h) := k
    unfold c_invokespecial at hok2 k2
    cases hb8 : Nat.beq b 8888
    · rw [hb8] at hok2
      cases hok2
    · rw [hb8] at hok2 k2
      simp only [cond_true] at hok2 k2
      split at hok2
      · rename_i r
        rw [Bool.and_eq_true] at hok2
        intro H locs ls hw hQ hv h0 h1
        show W p l e R s m args below meth c H locs _ _ Q (F0 m pc0 ls (mCv G (.ref r) :: []))
        rw [mCv_ref (Nat.lt_of_lt_of_le (Nat.blt_eq.mp hok2.1) hw.2)]
        exact W.objInit hx hb hown (hts _ (he (Nat.eq_of_beq_eq_true hb8))) (hts _ mw_obj.1) (hts _ mw_obj.2) rfl (by rw [C.2.2.1]; exact hv.1) rfl hd C.2.2.2.2.2.2.2.2.2.1.1 (by show 2 * 0 + 0 + 12 ≤ R.locals; have := C.2.2.2.2.2.2.2.2.2.1.2; omega) (k2 H locs ls hw hQ hv h0 h1)
      · cases hok2
  case newarray ty =>
    obtain rfl : len = 2 := by simpa [mLok, mIl] using hlen
    obtain ⟨n, r, rfl⟩ := mU1_ok (st := st) hok rfl
    have hok2 : (!(decide (n < 0)) && (decide (mIx n ≤ 60000000) && (decide (hN h + 1 ≤ nM) && (decide (hW h + mIx n ≤ wM) && ok)))) = true := hok
    simp only [Bool.and_eq_true, Bool.not_eq_true', decide_eq_true_eq, decide_eq_false_iff_not] at hok2
    exact so_newa C hd he.1 he.2 hok2.1 hok2.2.1 hok2.2.2.1 hok2.2.2.2.1 k
  case new i =>
    obtain rfl : len = 3 := by simpa [mLok, mIl] using hlen
    have hok2 : (decide (hN h + 1 ≤ nM) && (decide (hW h + mNf a ≤ wM) && ok)) = true := hok
    simp only [Bool.and_eq_true, decide_eq_true_eq] at hok2
    exact so_new C hd he hok2.1 hok2.2.1 k
  case multianewarray i d =>
    obtain rfl : len = 4 := by simpa [mLok, mIl] using hlen
    obtain ⟨kk, n, r, rfl⟩ := mU2_ok (st := st) hok rfl
    have hok2 : (decide (d = 2) && (!(decide (n < 0)) && (!(decide (kk < 0)) && (decide (mIx n ≤ 60000000) && (decide (mIx kk ≤ 60000000) && (decide (hN h + 1 + mIx n ≤ nM) && (decide (hW h + mIx n + mIx n * mIx kk ≤ wM) && ok))))))) = true := hok
    simp only [Bool.and_eq_true, Bool.not_eq_true', decide_eq_true_eq, decide_eq_false_iff_not] at hok2
    obtain ⟨q0, q1, q2, q3, q4, q5, q6, -⟩ := hok2
    subst q0
    exact so_mna C hd he q1 q2 q3 q4 q5 q6 k
  all_goals cases hok
end SD
end
section
/-! A STRETCH OF ROWS. -/
theorem mU1_ff {st : List Value} {h : mHp} {f : Int32 → List Value → mC} (z : ∀ x r, (f x r).1 = false) : (mU1 st (mBad h) f).1 = false := by
  unfold mU1
  split
  · exact z _ _
  · rfl
theorem mU2_ff {st : List Value} {h : mHp} {f : Int32 → Int32 → List Value → mC} (z : ∀ x y r, (f x y r).1 = false) : (mU2 st (mBad h) f).1 = false := by
  unfold mU2
  split
  · exact z _ _ _
  · rfl
theorem mUl_ff {st : List Value} {h : mHp} {f : Int64 → List Value → mC} (z : ∀ x r, (f x r).1 = false) : (mUl st (mBad h) f).1 = false := by
  unfold mUl
  split
  · exact z _ _
  · rfl
theorem mUll_ff {st : List Value} {h : mHp} {f : Int64 → Int64 → List Value → mC} (z : ∀ x y r, (f x y r).1 = false) : (mUll st (mBad h) f).1 = false := by
  unfold mUll
  split
  · exact z _ _ _
  · rfl
theorem mUr_ff {st : List Value} {h : mHp} {f : Nat → List Value → mC} (z : ∀ x r, (f x r).1 = false) : (mUr st (mBad h) f).1 = false := by
  unfold mUr
  split
  · exact z _ _
  · rfl
theorem mUir_ff {st : List Value} {h : mHp} {f : Int32 → Nat → List Value → mC} (z : ∀ x y r, (f x y r).1 = false) : (mUir st (mBad h) f).1 = false := by
  unfold mUir
  split
  · exact z _ _ _
  · rfl
theorem mUxir_ff {st : List Value} {h : mHp} {f : Value → Int32 → Nat → List Value → mC} (z : ∀ v x y r, (f v x y r).1 = false) : (mUxir st (mBad h) f).1 = false := by
  unfold mUxir
  split
  · exact z _ _ _ _
  · rfl
theorem mUvr_ff {st : List Value} {h : mHp} {f : Value → Nat → List Value → mC} (z : ∀ x y r, (f x y r).1 = false) : (mUvr st (mBad h) f).1 = false := by
  unfold mUvr
  split
  · exact z _ _ _
  · rfl
theorem mUv_ff {st : List Value} {h : mHp} {f : Value → List Value → mC} (z : ∀ x r, (f x r).1 = false) : (mUv st (mBad h) f).1 = false := by
  unfold mUv
  split
  · exact z _ _
  · rfl
theorem mUvv_ff {st : List Value} {h : mHp} {f : Value → Value → List Value → mC} (z : ∀ x y r, (f x y r).1 = false) : (mUvv st (mBad h) f).1 = false := by
  unfold mUvv
  split
  · exact z _ _ _
  · rfl
theorem mUc_ff {st : List Value} {h : mHp} {f : Int32 → Int32 → Nat → Int32 → Nat → List Value → mC} (z : ∀ n dp d sp a r, (f n dp d sp a r).1 = false) : (mUc st (mBad h) f).1 = false := by
  unfold mUc
  split
  · exact z _ _ _ _ _ _
  · rfl
theorem mLd_ff {pc i cat : Nat} {L st : List Value} {h : mHp} : (mLd false pc L st h i cat).1 = false := by
  unfold mLd
  split <;> rfl
theorem mSto_ff {pc nL i cat : Nat} {L st : List Value} {h : mHp} : (mSto false pc nL L st h i cat).1 = false := by
  unfold mSto
  split <;> rfl
set_option maxHeartbeats 2000000 in
theorem mst_ff {nL : Nat} {fin : Bool} {nM wM : Nat} {q : mI} {f : mC} (hf : f.1 = false) : (mst nL fin nM wM q f).1 = false := by
  obtain ⟨pc, ins, len, a, b⟩ := q
  obtain ⟨ok, pc0, L, st, h⟩ := f
  simp only at hf
  subst hf
  cases ins
  case ldc i => by_cases z : b = 0 <;> simp [mst, mDis, c_ldc, z]
  case new i => simp [mst, mDis, c_new]
  case iinc i n =>
    show (match L.getD i (.retAddr 0) with
      | .int x => ((false, pc + 3, (mFix L i).set i (.int (x + Int32.ofInt n)), st, h) : mC)
      | _ => mBad h).1 = false
    split <;> rfl
  case dup =>
    show (c_dup nL fin nM wM pc a b false L st h).1 = false
    unfold c_dup
    split <;> rfl
  case pop =>
    show (c_pop nL fin nM wM pc a b false L st h).1 = false
    unfold c_pop
    split <;> rfl
  case dup2 =>
    show (c_dup2 nL fin nM wM pc a b false L st h).1 = false
    unfold c_dup2
    split <;> rfl
  case putfield i =>
    refine mUvr_ff (fun v r t => ?_)
    unfold mPutB
    split <;> simp [mBad]
  case istore i => exact (mSto_ff : (mSto false (pc + 2) nL L st h i 0).1 = false)
  case istore_n i => exact (mSto_ff : (mSto false (pc + 1) nL L st h (i : Nat) 0).1 = false)
  case astore i => exact (mSto_ff : (mSto false (pc + 2) nL L st h i 1).1 = false)
  case astore_n i => exact (mSto_ff : (mSto false (pc + 1) nL L st h (i : Nat) 1).1 = false)
  case lstore i => exact (mSto_ff : (mSto false (pc + 2) nL L st h i 2).1 = false)
  case lstore_n i => exact (mSto_ff : (mSto false (pc + 1) nL L st h (i : Nat) 2).1 = false)
  case lshl => exact mU1_ff (fun _ _ => mUl_ff (fun _ _ => rfl))
  case invokestatic i =>
    show (c_invokestatic nL fin nM wM pc a b false L st h).1 = false
    unfold c_invokestatic
    cases Nat.beq b 7777
    · rfl
    · simp only [cond_true]
      split <;> simp [mBad]
  case invokespecial i =>
    show (c_invokespecial nL fin nM wM pc a b false L st h).1 = false
    unfold c_invokespecial
    cases Nat.beq b 8888
    · rfl
    · simp only [cond_true]
      split <;> simp [mBad]
  case iastore => exact mUxir_ff (fun v _ _ _ => by cases v <;> simp [mBad])
  case bastore => exact mUxir_ff (fun v _ _ _ => by cases v <;> simp [mBad])
  case lastore => exact mUxir_ff (fun v _ _ _ => by cases v <;> simp [mBad])
  all_goals first
    | rfl
    | exact mLd_ff
    | exact mSto_ff
    | exact mU1_ff (fun _ _ => by simp)
    | exact mU2_ff (fun _ _ _ => by simp)
    | exact mUll_ff (fun _ _ _ => by simp)
    | exact mUr_ff (fun _ _ => by simp)
    | exact mUir_ff (fun _ _ _ => by simp)
    | exact mUvr_ff (fun _ _ _ => by simp)
    | exact mUv_ff (fun _ _ => by simp)
    | exact mUvv_ff (fun _ _ _ => by simp)
    | exact Bool.and_false _
    | simp [mst]
theorem mgo_ff {nL : Nat} {fin : Bool} {nM wM : Nat} : ∀ (qs : List mI) (f : mC), f.1 = false → (mgo nL fin nM wM qs f).1 = false
  | [], _, h => h
  | q :: qs, f, h => by
    show (mgo nL fin nM wM qs (cond (Nat.beq f.2.1 q.1) (mst nL fin nM wM q f) (mBad f.2.2.2.2))).1 = false
    refine mgo_ff qs _ ?_
    cases Nat.beq f.2.1 q.1
    · rfl
    · exact mst_ff h
/-- a method's rows are its code's, and the words say what their indices mean -/
def mTok (cc : ByteArray) (own : String) (nL : Nat) (fin : Bool) (T : List mI) : Prop := ∀ q ∈ T, decode cc q.1 = .ok (q.2.1, q.2.2.1) ∧ mLok q = true ∧ mSta nL fin q = true ∧ mEnt own q
section SG
variable {p : Program} {l : Launch} {e : Env} {R : Room} {s : State} {m : MethodId} {args : Array Value} {below : List Frame} {meth : Method} {c : Code} {Q : State → Prop} {cc : ByteArray} {own : String} {G : mG} {nL n0 w0 nM wM : Nat} {fin : Bool} {T : List mI}
theorem mgo_ok (C : mCx p R s m args meth c G cc own nL fin nM wM n0 w0) (hT : mTok cc own nL fin T) : ∀ (qs : List mI) (f : mC), (∀ q ∈ qs, q ∈ T) → (mgo nL fin nM wM qs f).1 = true → mW p l e R s m args below meth c G nL n0 w0 Q (mgo nL fin nM wM qs f) → mW p l e R s m args below meth c G nL n0 w0 Q f
  | [], _, _, _, k => k
  | q :: qs, f, hs, hok, k => by
    have k1 := mgo_ok C hT qs (cond (Nat.beq f.2.1 q.1) (mst nL fin nM wM q f) (mBad f.2.2.2.2)) (fun x hx => hs x (List.mem_cons_of_mem _ hx)) hok k
    have h1 : (cond (Nat.beq f.2.1 q.1) (mst nL fin nM wM q f) (mBad f.2.2.2.2)).1 = true := by
      cases z : (cond (Nat.beq f.2.1 q.1) (mst nL fin nM wM q f) (mBad f.2.2.2.2)).1
      · have h2 := mgo_ff (nL := nL) (fin := fin) (nM := nM) (wM := wM) qs _ z
        have h3 : (mgo nL fin nM wM qs (cond (Nat.beq f.2.1 q.1) (mst nL fin nM wM q f) (mBad f.2.2.2.2))).1 = true := hok
        rw [h2] at h3
        cases h3
      · rfl
    obtain ⟨g1, g2, g4, g3⟩ := hT q (hs q List.mem_cons_self)
    cases hb : Nat.beq f.2.1 q.1
    · rw [hb] at h1
      cases h1
    · rw [hb] at h1 k1
      exact mst_ok C g1 g2 g4 g3 (Nat.eq_of_beq_eq_true hb) h1 k1
/-- THE STRETCH RULE: n rows from the a-th on lead from f to g -/
theorem mseg (C : mCx p R s m args meth c G cc own nL fin nM wM n0 w0) (hT : mTok cc own nL fin T) (a n : Nat) {f g : mC} (he : mgo nL fin nM wM ((T.drop a).take n) f = g) (hok : g.1 = true) (k : mW p l e R s m args below meth c G nL n0 w0 Q g) : mW p l e R s m args below meth c G nL n0 w0 Q f :=
  mgo_ok C hT ((T.drop a).take n) f (fun q hq => List.mem_of_mem_drop (List.mem_of_mem_take hq)) (by rw [he]; exact hok) (by rw [he]; exact k)
end SG
end
section
/-! CONTRACTS: entry, returns, calls. -/
/-- a method: its name, code, locals, what it returns -/
abbrev mM : Type := MethodName × ByteArray × Nat × Option FieldType
def mWo (M : mM) : Cond := .code M.1 M.2.1 M.2.2.1 M.2.2.2
def mPre (G : mG) (h : mHp) (U : State) : Prop := mWd G h U.heap ∧ U.heap.size = G.1 + hN h ∧ va_K G.2.2.2.1 vwCl (mTys G) U ∧ mX G U U.heap
def mPost (G : mG) (h' : mHp) (r : Option Value) : Array Value → State → Outcome → State → Prop := fun _ st oc t => oc = .returned (r.map (mCv G)) ∧ mWd G h' t.heap ∧ va_F (mA G) st t
def mRm (d : Nat) (h h' : mHp) : Room := { frames := d, cells := hN h' - hN h, slots := hW h' - hW h, locals := 100 * d }
/-- CONTRACT: called with vs in the heap h, M returns r, and the heap is h' then; d: how deep its calls go -/
def mMet (l : Launch) (M : mM) (d : Nat) (vs : List Value) (h : mHp) (r : Option Value) (h' : mHp) : Prop :=
  hN h ≤ hN h' ∧ hW h ≤ hW h' ∧ ∀ G : mG, Met l M.1 (mWo M :: mTb) (mRm d h h') (va_Pc (vs.map (mCv G)) (mPre G h)) (mPost G h' r) (hN h' - hN h) (hW h' - hW h) (mA G)
theorem mX_warm {G : mG} {s U : State} (hW : s.WarmedH U.vm) {H : Heap} (h : mX G s H) : mX G U H :=
  ⟨fun j q hq => (h.1 j q hq).warm hW, h.2.1.moved hW.alike, fun q hq => va_Nw.warmM hW (h.2.2.1 q hq), mAO_moved hW.alike h.2.2.2⟩
theorem mX_same {G : mG} {s U : State} (hv : U.vm = s.vm) {H : Heap} (h : mX G s H) : mX G U H :=
  ⟨fun j q hq => (h.1 j q hq).same hv, h.2.1.moved (by rw [hv]; exact Vm.Alike.refl s.vm), fun q hq => (h.2.2.1 q hq).same rfl hv.symm, mAO_moved (by rw [hv]; exact Vm.Alike.refl s.vm) h.2.2.2⟩
theorem mX_kept {G : mG} {s : State} {H H1 : Heap} (h : mX G s H) (hq : ∀ a : Nat, a < H.size → ¬ mA G a → H1[a]? = H[a]?) : mX G s H1 := ⟨h.1, h.2.1.kept hq, h.2.2⟩
theorem mPre_blind {G : mG} {h : mHp} {vs : List Value} : FrameBlind (va_Pc vs (mPre G h)) := by
  intro a U g mk q
  obtain ⟨q0, q1, q2, q3, q4⟩ := q
  exact ⟨q0, q1, q2, va_K.moved (u := U) (U := U.calling g mk a) (Vm.Alike.refl U.vm) q3, mX_same rfl q4⟩
/-- the locals at the entry -/
def mEx : List Value → List Value
  | [] => []
  | .long x :: vs => .long x :: .retAddr 0 :: mEx vs
  | v :: vs => v :: mEx vs
def mL0 (nL : Nat) (vs : List Value) : List Value := mEx vs ++ List.replicate (nL - (mEx vs).length) (.retAddr 0)
/-- no value that isn't one of ours -/
def mPl (vs : List Value) : Bool := vs.all (fun v => match v with
  | .int _ => true
  | .long _ => true
  | .ref _ => true
  | _ => false)
theorem mEx_args {G : mG} : ∀ (vs : List Value) (i j : Nat) (v : Value), mPl vs = true → (mEx vs)[j]? = some v → (∀ n, v ≠ .retAddr n) → (i + j, mCv G v) ∈ lv_args i (vs.map (mCv G))
  | [], i, j, v, _, h, _ => by simp [mEx] at h
  | w :: vs, i, j, v, hp, h, hn => by
    have hp2 : mPl vs = true := by
      unfold mPl at hp ⊢
      rw [List.all_cons, Bool.and_eq_true] at hp
      exact hp.2
    cases w with
    | long x =>
      have h2 : (Value.long x :: .retAddr 0 :: mEx vs)[j]? = some v := h
      match j, h2 with
      | 0, h2 =>
        cases h2
        exact List.mem_cons_self
      | 1, h2 =>
        have h3 : Value.retAddr 0 = v := by simpa using h2
        exact absurd h3.symm (hn 0)
      | j + 2, h2 =>
        have h3 : (mEx vs)[j]? = some v := by simpa using h2
        have := mEx_args (G := G) vs (i + 2) j v hp2 h3 hn
        rw [show i + (j + 2) = i + 2 + j by omega]
        exact List.mem_cons_of_mem _ this
    | int x =>
      have h2 : (Value.int x :: mEx vs)[j]? = some v := h
      match j, h2 with
      | 0, h2 =>
        cases h2
        exact List.mem_cons_self
      | j + 1, h2 =>
        have h3 : (mEx vs)[j]? = some v := by simpa using h2
        have := mEx_args (G := G) vs (i + 1) j v hp2 h3 hn
        rw [show i + (j + 1) = i + 1 + j by omega]
        exact List.mem_cons_of_mem _ this
    | ref x =>
      have h2 : (Value.ref x :: mEx vs)[j]? = some v := h
      match j, h2 with
      | 0, h2 =>
        cases h2
        exact List.mem_cons_self
      | j + 1, h2 =>
        have h3 : (mEx vs)[j]? = some v := by simpa using h2
        have := mEx_args (G := G) vs (i + 1) j v hp2 h3 hn
        rw [show i + (j + 1) = i + 1 + j by omega]
        refine List.mem_cons_of_mem _ ?_
        rw [if_neg (by rw [mCv_cat]; show ¬ (1 : Nat) = 2; decide)]
        exact this
    | float x => cases hp
    | double x => cases hp
    | null => cases hp
    | retAddr x => cases hp
theorem mEx_len {G : mG} : ∀ (vs : List Value), mPl vs = true → (lg_sl (vs.map (mCv G))).length = (mEx vs).length
  | [], _ => rfl
  | w :: vs, hp => by
    have hp2 : mPl vs = true := by
      unfold mPl at hp ⊢
      rw [List.all_cons, Bool.and_eq_true] at hp
      exact hp.2
    have ih := mEx_len (G := G) vs hp2
    have hc : lg_sl ((w :: vs).map (mCv G)) = (if (mCv G w).category = 2 then [.val (mCv G w), .second] else [.val (mCv G w)]) ++ lg_sl (vs.map (mCv G)) := by
      unfold lg_sl
      rw [List.map_cons, List.flatMap_cons]
    rw [hc, List.length_append, ih, mCv_cat]
    cases w with
    | long x => show 2 + _ = (Value.long x :: .retAddr 0 :: mEx vs).length; simp; omega
    | int x => show 1 + _ = (Value.int x :: mEx vs).length; simp; omega
    | ref x => show 1 + _ = (Value.ref x :: mEx vs).length; simp; omega
    | float x => cases hp
    | double x => cases hp
    | null => cases hp
    | retAddr x => cases hp
theorem mL0_has {G : mG} {ls : Array Slot} {nL : Nat} {vs : List Value} (hp : mPl vs = true) (h : lv_has ls nL (lv_args 0 (vs.map (mCv G)))) : lv_has ls nL (mLv G (mL0 nL vs)) := by
  refine ⟨h.1, h.2.1, fun q hq => ?_⟩
  obtain ⟨v, h1, h2, h3, h4⟩ := mLv_mem.mp hq
  have h5 : (mL0 nL vs)[q.1]? = some v := by
    rw [List.getD, List.getElem?_eq_getElem h1] at h2
    rw [List.getElem?_eq_getElem h1]
    exact congrArg some h2
  have h6 : (mEx vs)[q.1]? = some v := by
    unfold mL0 at h5
    by_cases c : q.1 < (mEx vs).length
    · rw [List.getElem?_append_left c] at h5
      exact h5
    · rw [List.getElem?_append_right (by omega)] at h5
      have := List.mem_of_getElem? h5
      have h7 := List.eq_of_mem_replicate this
      exact absurd h7 (h3 0)
  have h8 := mEx_args (G := G) vs 0 q.1 v hp h6 h3
  rw [Nat.zero_add] at h8
  have h9 : q = (q.1, mCv G v) := by
    obtain ⟨a, b⟩ := q
    simp only at h4
    rw [h4]
  rw [h9]
  exact h.2.2 _ h8
/-- THE ENTRY -/
theorem mMet_of {l : Launch} {M : mM} {d : Nat} {vs : List Value} {h h' : mHp} {r : Option Value} (fin : Bool) (hy : plainName M.1.cls = true) (hfin : fin = true → M.1.name = "<init>") (hd : 1 ≤ d) (hp : mPl vs = true) (hl : (mEx vs).length ≤ M.2.2.1) (hn : hN h ≤ hN h') (hw : hW h ≤ hW h') (h9 : hN h' ≤ 900000)
    (body : ∀ (p : Program) (e : Env) (s : State) (m : MethodId) (args : Array Value) (below : List Frame) (meth : Method) (c : Code) (G : mG), mCx p (mRm d h h') s m args meth c G M.2.1 M.1.cls M.2.2.1 fin (hN h') (hW h') (hN h) (hW h) → meth.sig.returnType = M.2.2.2 → meth.locks = false →
      mW p l e (mRm d h h') s m args below meth c G M.2.2.1 (hN h) (hW h) (MQ below (mPost G h' r) args s (hN h' - hN h) (hW h' - hW h) (mA G)) (true, 0, mL0 M.2.2.1 vs, [], h)) : mMet l M d vs h r h' := by
  refine ⟨hn, hw, fun G => ?_⟩
  refine Met.ofW (cc := M.2.1) (maxL := M.2.2.1) (ret := M.2.2.2) hy rfl ?_
  intro p e s m args below meth c s₁ B hml hv
  obtain ⟨rfl, hP, hsz, hK, hX⟩ := hv
  have hts := atoms_spec (ws := mWo M :: mTb) B.pre
  have hown : s.vm.findClass M.1.cls = some m.cls := findClass_of_methodNamed B.named
  have hnm : meth.name = M.1.name := (name_of_methodNamed B.named B.method).1
  have hl2 : (lg_sl (vs.map (mCv G))).length ≤ M.2.2.1 := by rw [mEx_len vs hp]; exact hl
  have hls := lv_entry (vs.map (mCv G)) hl2
  rw [lg_entry_eq]
  have k := body p e s m (vs.map (mCv G)).toArray below meth c G ⟨B.exec, B.bytes, hml, hown, fun w hw => hts w (List.mem_cons_of_mem _ hw), hK, hsz, hX, ⟨by show hN h' ≤ hN h + (hN h' - hN h); omega, by show hW h' ≤ hW h + (hW h' - hW h); omega, h9⟩, ⟨hd, by show 100 ≤ 100 * d; omega⟩, fun z => hnm.trans (hfin z)⟩ B.returns B.notSynchronized
  have k1 := k s.heap [] _ hP va_S.rf (mL0_has hp hls) (Nat.le_refl _) (Nat.le_refl _)
  have k2 : W p l e (mRm d h h') s m (vs.map (mCv G)).toArray below meth c s.heap [] (hN h - hN h) (hW h - hW h) (MQ below (mPost G h' r) (vs.map (mCv G)).toArray s (hN h' - hN h) (hW h' - hW h) (mA G)) (F0 m 0 _ []) := k1
  rw [Nat.sub_self, Nat.sub_self] at k2
  exact k2
section SC
variable {p : Program} {l : Launch} {e : Env} {R : Room} {s : State} {m : MethodId} {args : Array Value} {below : List Frame} {meth : Method} {c : Code} {Q : State → Prop} {cc : ByteArray} {own : String} {G : mG} {nL n0 w0 nM wM : Nat} {fin : Bool}
/-! returns -/
theorem mret_i (C : mCx p R s m args meth c G cc own nL fin nM wM n0 w0) (hr : meth.sig.returnType = some .int) (hk : meth.locks = false) {pc : Nat} {ok : Bool} {L : List Value} {h : mHp} {v : Int32} (hd : decode cc pc = .ok (.ireturn, 1)) :
    mW p l e R s m args below meth c G nL n0 w0 (MQ below (mPost G h (some (.int v))) args s (hN h - n0) (hW h - w0) (mA G)) (ok, pc, L, [.int v], h) := by
  intro H locs ls hw hQ hv h0 h1
  exact W.iret (v := v) C.1 C.2.1 hr (fun t ht _ => ⟨rfl, by rw [ht]; exact hw, hQ.F ht⟩) hQ.2.2 hd hk
theorem mret_z (C : mCx p R s m args meth c G cc own nL fin nM wM n0 w0) {ty : FieldType} (hr : meth.sig.returnType = some ty) (hk : meth.locks = false) {pc : Nat} {ok : Bool} {L : List Value} {h : mHp} {v : Int32} (hn : narrow ty (.int v) = .int v) (hd : decode cc pc = .ok (.ireturn, 1)) :
    mW p l e R s m args below meth c G nL n0 w0 (MQ below (mPost G h (some (.int v))) args s (hN h - n0) (hW h - w0) (mA G)) (ok, pc, L, [.int v], h) := by
  intro H locs ls hw hQ hv h0 h1
  exact W.zret (v := v) C.1 C.2.1 hr hn (fun t ht _ => ⟨rfl, by rw [ht]; exact hw, hQ.F ht⟩) hQ.2.2 hd hk
theorem mret_l (C : mCx p R s m args meth c G cc own nL fin nM wM n0 w0) (hr : meth.sig.returnType = some .long) (hk : meth.locks = false) {pc : Nat} {ok : Bool} {L : List Value} {h : mHp} {v : Int64} (hd : decode cc pc = .ok (.lreturn, 1)) :
    mW p l e R s m args below meth c G nL n0 w0 (MQ below (mPost G h (some (.long v))) args s (hN h - n0) (hW h - w0) (mA G)) (ok, pc, L, [.long v], h) := by
  intro H locs ls hw hQ hv h0 h1
  exact W.lret (v := v) C.1 C.2.1 hr (fun t ht _ => ⟨rfl, by rw [ht]; exact hw, hQ.F ht⟩) hQ.2.2 hd hk
theorem mret_v (C : mCx p R s m args meth c G cc own nL fin nM wM n0 w0) (hr : meth.sig.returnType = none) (hk : meth.locks = false) {pc : Nat} {ok : Bool} {L : List Value} {h : mHp} (hd : decode cc pc = .ok (.return_, 1)) :
    mW p l e R s m args below meth c G nL n0 w0 (MQ below (mPost G h none) args s (hN h - n0) (hW h - w0) (mA G)) (ok, pc, L, [], h) := by
  intro H locs ls hw hQ hv h0 h1
  exact W.vret C.1 C.2.1 hr (fun t ht _ => ⟨rfl, by rw [ht]; exact hw, hQ.F ht⟩) hQ.2.2 hd hk
/-! calls -/
theorem mrun_go {H : Heap} {locs : List Loc} {cells slots mc ms pc : Nat} {ls : Array Slot} {st0 rest : List Value} {h' : mHp} {r : Option Value} {a : Array Value} (hr : va_Run p l e R s m args below meth c H locs cells slots mc ms (F0 m pc ls st0) rest (mPost G h' r a) (mA G)) (hS : va_S (mA G) s.heap H locs)
    (kk : ∀ (H1 : Heap) (locs1 : List Loc), mWd G h' H1 → va_S (mA G) s.heap H1 locs1 → W p l e R s m args below meth c H1 locs1 (cells + mc) (slots + ms) Q (F0 m (pc + 3) ls ((r.map (mCv G)).toList ++ rest))) : W p l e R s m args below meth c H locs cells slots Q (F0 m pc ls st0) := by
  intro T hT X
  obtain ⟨v, st₀, t, T', L, h0, X', hL, e1, e2, ⟨hv, hb, hz, hk⟩, st⟩ := hr T hT X
  cases hv
  rw [h0] at hz hk
  obtain ⟨t2, a1, b1⟩ := kk T'.heap (locs ++ L) (by rw [e1]; exact hb)
    ⟨Nat.le_trans hS.1 (by rw [e1]; exact hz), fun q h1 h2 => by rw [e1, hk q (Nat.lt_of_lt_of_le h1 hS.1) h2]; exact hS.2.1 q h1 h2, fun q hq => by
      rcases List.mem_append.mp hq with h | h
      · exact hS.2.2 q h
      · exact hL q h⟩ T' rfl X'
  exact ⟨t2, st t2 a1, b1⟩
/-- the words of a call: 0 virtual, 1 static, 2 a nest mate's static, 3 a constructor, 4 a nest mate's constructor -/
def mLk (kd : Nat) (own : String) (i : Nat) (M : mM) (n : Nat) : Prop :=
  (M.1.cls ≠ "java/lang/invoke/MethodHandle" ∧ M.1.cls ≠ "java/lang/invoke/VarHandle" ∧ (parseMethodDescriptor M.1.desc).map (fun d => d.parameters.length) = some n) ∧ mWo M ∈ mTb ∧ Cond.initialized M.1.cls ∈ mTb ∧
  (match kd with
    | 0 => Cond.methodLink own i M.1 ∈ mTb ∧ Cond.instanceMethod M.1 ∈ mTb ∧ Cond.selects M.1.cls M.1 M.1 ∈ mTb
    | 1 => Cond.methodLink own i M.1 ∈ mTb ∧ Cond.static M.1 ∈ mTb
    | 2 => (∃ h, (own, i, M.1, h) ∈ mNs) ∧ Cond.static M.1 ∈ mTb
    | 3 => Cond.methodLink own i M.1 ∈ mTb ∧ Cond.instanceMethod M.1 ∈ mTb ∧ M.1.name = "<init>" ∧ M.2.2.2 = none
    | _ => (∃ h, (own, i, M.1, h) ∈ mNs) ∧ Cond.instanceMethod M.1 ∈ mTb ∧ M.1.name = "<init>" ∧ M.2.2.2 = none)
theorem mGood {M : mM} (h : mWo M ∈ mTb) : GoodIn mTb (mWo M :: mTb) := fun w hw => by
  rcases List.mem_cons.mp hw with rfl | hw
  · exact ⟨h, mTb_good _ h⟩
  · exact ⟨hw, mTb_good _ hw⟩
theorem mPre_call (C : mCx p R s m args meth c G cc own nL fin nM wM n0 w0) {H : Heap} {locs : List Loc} {h : mHp} {vs : List Value} (hw : mWd G h H) (hS : va_S (mA G) s.heap H locs) (hz : H.size = G.1 + hN h) : ∀ U : State, U.heap = H → s.WarmedH U.vm → va_Pc (vs.map (mCv G)) (mPre G h) (vs.map (mCv G)).toArray U := by
  intro U hU hW
  refine ⟨rfl, by rw [hU]; exact hw, by rw [hU]; exact hz, C.2.2.2.2.2.1.moved hW.alike, ?_⟩
  rw [hU]
  exact mX_warm hW (mX_kept C.2.2.2.2.2.2.2.1 hS.2.1)
theorem mcall {kd i n pc d : Nat} {M : mM} (C : mCx p R s m args meth c G cc own nL fin nM wM n0 w0) (hk : mLk kd own i M n) {ok ok' : Bool} {L vs rest : List Value} {h h' : mHp} {r : Option Value} (hM : mMet l M d vs h r h')
    (hd : match kd with | 0 => decode cc pc = .ok (.invokevirtual i, 3) | 1 => decode cc pc = .ok (.invokestatic i, 3) | 2 => decode cc pc = .ok (.invokestatic i, 3) | _ => decode cc pc = .ok (.invokespecial i, 3))
    (hv : match kd with | 0 => ∃ a vs', vs = .ref a :: vs' ∧ vs'.length = n ∧ a < hN h ∧ ∃ ci r0, hS h a = .inl ci ∧ vwCl[ci]? = some r0 ∧ r0.1 = M.1.cls | 1 => vs.length = n | 2 => vs.length = n | _ => ∃ a vs', vs = .ref a :: vs' ∧ vs'.length = n ∧ a < hN h)
    (hf : d + 1 ≤ R.frames) (hlo : 19 + M.2.2.1 + 100 * d ≤ R.locals) (hnM : hN h' ≤ nM) (hwM : hW h' ≤ wM) (hcat : (rest.map fun v => v.category).sum ≤ 8)
    (k : mW p l e R s m args below meth c G nL n0 w0 Q (ok', pc + 3, L, r.toList ++ rest, h')) : mW p l e R s m args below meth c G nL n0 w0 Q (ok, pc, L, vs.reverse ++ rest, h) := by
  intro H locs ls hw hQ hl h0 h1
  have h0 : n0 ≤ hN h := h0
  have h1 : w0 ≤ hW h := h1
  refine W_sz fun hz => ?_
  have hsz2 : H.size = G.1 + hN h := mWd_sz hw C.2.2.2.2.2.2.1 hz h0 hQ.1
  have hpre := mPre_call (vs := vs) C hw hQ hsz2
  obtain ⟨m1, m2, hMet⟩ := hM
  have hG := hMet G
  obtain ⟨hx, hb, hml, hown, hts, hK, hsz, hX, ⟨hnm1, hnm2, hnm3⟩, hfr, hfin⟩ := C
  obtain ⟨kd1, kd2, kd3, kd4⟩ := hk
  have hR : (mRm d h h').frames + 1 ≤ R.frames ∧ 8 + (M.2.2.1 + 11) + (mRm d h h').locals ≤ R.locals := ⟨hf, by show 8 + (M.2.2.1 + 11) + 100 * d ≤ R.locals; omega⟩
  have hroom : hN h - n0 + (hN h' - hN h) ≤ R.cells ∧ hW h - w0 + (hW h' - hW h) ≤ R.slots := ⟨by omega, by omega⟩
  have hcat2 : 2 * (F0 m pc ls ((vs.reverse ++ rest).map (mCv G))).monitorRoom + ((rest.map (mCv G)).map fun v => v.category).sum ≤ 8 := lv_room (by rw [mCv_cats]; exact hcat)
  have fx : CallFix p m c cc nL s args mTb own := ⟨hx, hb, hml, hown, hts⟩
  have go : ∀ a : Array Value, va_Run p l e R s m args below meth c H locs (hN h - n0) (hW h - w0) (hN h' - hN h) (hW h' - hW h) (F0 m pc ls ((vs.reverse ++ rest).map (mCv G))) (rest.map (mCv G)) (mPost G h' r a) (mA G) → W p l e R s m args below meth c H locs (hN h - n0) (hW h - w0) Q (F0 m pc ls ((vs.reverse ++ rest).map (mCv G))) := by
    intro a hrun
    refine mrun_go hrun hQ fun H1 locs1 hw1 hQ1 => ?_
    have k1 := k H1 locs1 ls hw1 hQ1 hl (Nat.le_trans h0 m1) (Nat.le_trans h1 m2)
    have k2 : W p l e R s m args below meth c H1 locs1 (hN h' - n0) (hW h' - w0) Q (F0 m (pc + 3) ls ((r.toList ++ rest).map (mCv G))) := k1
    rw [show hN h - n0 + (hN h' - hN h) = hN h' - n0 by omega, show hW h - w0 + (hW h' - hW h) = hW h' - w0 by omega]
    have e9 : (r.toList ++ rest).map (mCv G) = (r.map (mCv G)).toList ++ rest.map (mCv G) := by
      cases r <;> rfl
    rw [e9] at k2
    exact k2
  have hlsz : ls.size = nL := hl.1
  match kd, kd4, hd, hv with
  | 0, ⟨q1, q2, q3⟩, hd, ⟨a, vs', e1, e2, e3, ci, r0, e4, e5, e6⟩ =>
    subst e1
    have ea : (mCv G (.ref a)) = .ref (G.1 + a) := mCv_ref (Nat.lt_of_lt_of_le e3 hw.2)
    have hpre2 : ∀ U : State, U.heap = H → s.WarmedH U.vm → va_Pc ((Value.ref a :: vs').map (mCv G)) (mPre G h) (Value.ref (G.1 + a) :: vs'.map (mCv G)).toArray U := by
      rw [← ea]; exact hpre
    refine go _ (va_runV (As := vs'.map (mCv G)) (rest := rest.map (mCv G)) (b := G.1 + a) (C := M.1.cls) fx hG ⟨callB_of n hts (mGood kd2) rfl rfl rfl (hts _ kd3) (hts _ q1) kd1 hR, hts _ q2, hts _ q3⟩ ⟨mPre_blind, ?_, hpre2⟩ rfl (by rw [List.length_map]; exact e2) hlsz ?_ hcat2 hd hroom)
    · have := va_recv hK hw.1 (q0 := a) (ci := ci) e5 (by rw [mWs_get e3, mEl_O e4])
      rw [e6] at this
      exact this
    · show ((Value.ref a :: vs').reverse ++ rest).map (mCv G) = _
      rw [List.map_append, List.map_reverse, List.map_cons, List.reverse_cons, List.append_assoc, ea]
      rfl
  | 1, ⟨q1, q2⟩, hd, hv =>
    refine go _ (va_runS (As := vs.map (mCv G)) (rest := rest.map (mCv G)) fx hG ⟨callB_of n hts (mGood kd2) rfl rfl rfl (hts _ kd3) (hts _ q1) kd1 hR, hts _ q2⟩ ⟨mPre_blind, hpre⟩ rfl (by rw [List.length_map]; exact hv) hlsz ?_ hcat2 hd hroom)
    show (vs.reverse ++ rest).map (mCv G) = _
    rw [List.map_append, List.map_reverse]
  | 2, ⟨⟨ho, q1⟩, q2⟩, hd, hv =>
    refine go _ (va_runSN (As := vs.map (mCv G)) (rest := rest.map (mCv G)) (host := ho) fx hG ⟨va_cnB n hts (mGood kd2) rfl rfl rfl (hX.2.2.1 _ q1) (hts _ kd3) kd1 hR, hts _ q2, trivial⟩ ⟨mPre_blind, hpre⟩ rfl (by rw [List.length_map]; exact hv) hlsz ?_ hcat2 hd hroom)
    show (vs.reverse ++ rest).map (mCv G) = _
    rw [List.map_append, List.map_reverse]
  | 3, ⟨q1, q2, q3, q4⟩, hd, ⟨a, vs', e1, e2, e3⟩ =>
    subst e1
    obtain ⟨y, bc, ml, rt⟩ := M
    simp only at q4
    subst q4
    have ea : (mCv G (.ref a)) = .ref (G.1 + a) := mCv_ref (Nat.lt_of_lt_of_le e3 hw.2)
    have hpre2 : ∀ U : State, U.heap = H → s.WarmedH U.vm → va_Pc ((Value.ref a :: vs').map (mCv G)) (mPre G h) (Value.ref (G.1 + a) :: vs'.map (mCv G)).toArray U := by
      rw [← ea]; exact hpre
    refine go _ (va_runI (As := vs'.map (mCv G)) (rest := rest.map (mCv G)) (b := G.1 + a) fx hG ⟨callB_of n hts (mGood kd2) rfl rfl rfl (hts _ kd3) (hts _ q1) kd1 hR, q3, hts _ q2⟩ ⟨mPre_blind, hpre2⟩ rfl (by rw [List.length_map]; exact e2) hlsz ?_ hcat2 hd hroom)
    show ((Value.ref a :: vs').reverse ++ rest).map (mCv G) = _
    rw [List.map_append, List.map_reverse, List.map_cons, List.reverse_cons, List.append_assoc, ea]
    rfl
  | n4 + 4, ⟨⟨ho, q1⟩, q2, q3, q4⟩, hd, ⟨a, vs', e1, e2, e3⟩ =>
    subst e1
    obtain ⟨y, bc, ml, rt⟩ := M
    simp only at q4
    subst q4
    have ea : (mCv G (.ref a)) = .ref (G.1 + a) := mCv_ref (Nat.lt_of_lt_of_le e3 hw.2)
    have hpre2 : ∀ U : State, U.heap = H → s.WarmedH U.vm → va_Pc ((Value.ref a :: vs').map (mCv G)) (mPre G h) (Value.ref (G.1 + a) :: vs'.map (mCv G)).toArray U := by
      rw [← ea]; exact hpre
    refine go _ (va_runIN (As := vs'.map (mCv G)) (rest := rest.map (mCv G)) (b := G.1 + a) (host := ho) fx hG ⟨va_cnB n hts (mGood kd2) rfl rfl rfl (hX.2.2.1 _ q1) (hts _ kd3) kd1 hR, q3, hts _ q2⟩ ⟨mPre_blind, hpre2⟩ rfl (by rw [List.length_map]; exact e2) hlsz ?_ hcat2 hd hroom)
    show ((Value.ref a :: vs').reverse ++ rest).map (mCv G) = _
    rw [List.map_append, List.map_reverse, List.map_cons, List.reverse_cons, List.append_assoc, ea]
    rfl
end SC
end
section
/-! THE CELLS behind the two constructors: 233 of them; only the two sheets of the class change places (b). -/
abbrev mS : Type := (Nat → Nat → Int32) × (Nat → Nat → Int64) × Bool
def sT (r : Nat) : mSh := cond (Nat.blt r 116) (cond (Nat.blt r 58) (cond (Nat.blt r 29) (cond (Nat.blt r 14) (cond (Nat.blt r 7) (cond (Nat.blt r 3) (cond (Nat.blt r 1) (.inl 11) (cond (Nat.blt r 2) (.inl 4) (.inr (.byte, 1600)))) (cond (Nat.blt r 5) (cond (Nat.blt r 4) (.inl 8) (.inr (.long, 5))) (.inr (.int, 5)))) (cond (Nat.blt r 10) (cond (Nat.blt r 8) (.inr (.int, 5)) (cond (Nat.blt r 9) (.inr (.int, 5)) (.inl 0))) (cond (Nat.blt r 12) (cond (Nat.blt r 11) (.inr (.int, 280)) (.inr (.int, 30))) (cond (Nat.blt r 13) (.inl 0) (.inr (.int, 280)))))) (cond (Nat.blt r 21) (cond (Nat.blt r 17) (cond (Nat.blt r 15) (.inr (.int, 30)) (cond (Nat.blt r 16) (.inl 0) (.inr (.int, 280)))) (cond (Nat.blt r 19) (cond (Nat.blt r 18) (.inr (.int, 30)) (.inr (.int, 6))) (cond (Nat.blt r 20) (.inl 8) (.inr (.long, 5))))) (cond (Nat.blt r 25) (.inr (.int, 5)) (cond (Nat.blt r 27) (cond (Nat.blt r 26) (.inl 0) (.inr (.int, 280))) (cond (Nat.blt r 28) (.inr (.int, 30)) (.inl 0)))))) (cond (Nat.blt r 43) (cond (Nat.blt r 36) (cond (Nat.blt r 32) (cond (Nat.blt r 30) (.inr (.int, 280)) (cond (Nat.blt r 31) (.inr (.int, 30)) (.inl 0))) (cond (Nat.blt r 34) (cond (Nat.blt r 33) (.inr (.int, 280)) (.inr (.int, 30))) (cond (Nat.blt r 35) (.inr (.int, 6)) (.inr (.int, 17))))) (cond (Nat.blt r 39) (cond (Nat.blt r 37) (.inr (.int, 17)) (cond (Nat.blt r 38) (.inl 2) (.inr (.array .int, 41)))) (.inr (.int, 17)))) (.inr (.int, 17)))) (cond (Nat.blt r 87) (cond (Nat.blt r 72) (.inr (.int, 17)) (cond (Nat.blt r 79) (.inr (.int, 17)) (cond (Nat.blt r 83) (cond (Nat.blt r 81) (cond (Nat.blt r 80) (.inr (.int, 17)) (.inr (.array .int, 3))) (.inr (.int, 17))) (cond (Nat.blt r 85) (cond (Nat.blt r 84) (.inr (.int, 17)) (.inr (.boolean, 3))) (cond (Nat.blt r 86) (.inl 1) (.inr (.array .int, 5))))))) (cond (Nat.blt r 101) (cond (Nat.blt r 94) (cond (Nat.blt r 90) (.inr (.int, 8)) (cond (Nat.blt r 92) (.inr (.int, 8)) (cond (Nat.blt r 93) (.inr (.array .int, 6)) (.inr (.int, 36))))) (cond (Nat.blt r 97) (.inr (.int, 36)) (cond (Nat.blt r 99) (.inr (.int, 36)) (cond (Nat.blt r 100) (.inr (.int, 5)) (.inl 6))))) (cond (Nat.blt r 108) (cond (Nat.blt r 104) (.inr (.int, 5)) (cond (Nat.blt r 106) (.inr (.int, 5)) (cond (Nat.blt r 107) (.inr (.int, 5)) (.inr (.int, 32))))) (cond (Nat.blt r 112) (cond (Nat.blt r 110) (cond (Nat.blt r 109) (.inr (.int, 8)) (.inl 7)) (.inr (.int, 5))) (cond (Nat.blt r 114) (.inr (.int, 5)) (cond (Nat.blt r 115) (.inl 5) (.inr (.int, 30))))))))) (cond (Nat.blt r 174) (cond (Nat.blt r 145) (cond (Nat.blt r 130) (cond (Nat.blt r 123) (cond (Nat.blt r 119) (.inr (.int, 30)) (cond (Nat.blt r 121) (cond (Nat.blt r 120) (.inr (.int, 30)) (.inl 10)) (cond (Nat.blt r 122) (.inr (.array .int, 5)) (.inr (.int, 8))))) (cond (Nat.blt r 126) (.inr (.int, 8)) (cond (Nat.blt r 128) (cond (Nat.blt r 127) (.inr (.int, 8)) (.inr (.int, 32))) (cond (Nat.blt r 129) (.inr (.int, 32)) (.inl 9))))) (cond (Nat.blt r 137) (cond (Nat.blt r 133) (cond (Nat.blt r 131) (.inr (.int, 32)) (cond (Nat.blt r 132) (.inr (.array .int, 5)) (.inr (.int, 16)))) (.inr (.int, 16))) (cond (Nat.blt r 141) (cond (Nat.blt r 139) (cond (Nat.blt r 138) (.inr (.int, 5)) (.inr (.int, 4096))) (cond (Nat.blt r 140) (.inr (.int, 4096)) (.inl 3))) (cond (Nat.blt r 143) (cond (Nat.blt r 142) (.inr (.array .int, 32)) (.inr (.int, 36))) (.inr (.int, 36)))))) (.inr (.int, 36))) (cond (Nat.blt r 203) (cond (Nat.blt r 188) (cond (Nat.blt r 181) (cond (Nat.blt r 177) (cond (Nat.blt r 175) (.inl 9) (cond (Nat.blt r 176) (.inr (.int, 32)) (.inr (.array .int, 5)))) (.inr (.int, 16))) (cond (Nat.blt r 184) (cond (Nat.blt r 182) (.inr (.int, 16)) (cond (Nat.blt r 183) (.inr (.int, 5)) (.inr (.int, 6)))) (cond (Nat.blt r 186) (.inr (.int, 5)) (cond (Nat.blt r 187) (.inr (.int, 8)) (.inl 12))))) (cond (Nat.blt r 195) (cond (Nat.blt r 191) (cond (Nat.blt r 189) (.inr (.int, 1600)) (cond (Nat.blt r 190) (.inr (.long, 5)) (.inr (.int, 960)))) (cond (Nat.blt r 193) (cond (Nat.blt r 192) (.inr (.int, 960)) (.inr (.int, 3))) (.inr (.int, 960)))) (cond (Nat.blt r 199) (cond (Nat.blt r 197) (cond (Nat.blt r 196) (.inr (.int, 3)) (.inr (.int, 160))) (cond (Nat.blt r 198) (.inr (.int, 64)) (.inr (.boolean, 3)))) (cond (Nat.blt r 201) (cond (Nat.blt r 200) (.inr (.boolean, 3)) (.inr (.int, 6))) (.inr (.int, 5)))))) (cond (Nat.blt r 218) (cond (Nat.blt r 210) (cond (Nat.blt r 206) (.inr (.int, 5)) (cond (Nat.blt r 208) (.inr (.int, 5)) (cond (Nat.blt r 209) (.inr (.int, 18)) (.inr (.int, 5))))) (cond (Nat.blt r 214) (cond (Nat.blt r 212) (.inr (.int, 5)) (cond (Nat.blt r 213) (.inr (.int, 720)) (.inr (.int, 40)))) (cond (Nat.blt r 216) (cond (Nat.blt r 215) (.inr (.int, 5)) (.inr (.int, 16))) (.inr (.int, 5))))) (cond (Nat.blt r 225) (cond (Nat.blt r 221) (.inr (.int, 5)) (cond (Nat.blt r 223) (.inr (.int, 32)) (cond (Nat.blt r 224) (.inr (.int, 32)) (.inr (.int, 30))))) (cond (Nat.blt r 229) (.inr (.int, 30)) (cond (Nat.blt r 231) (cond (Nat.blt r 230) (.inr (.int, 40)) (.inr (.boolean, 32768))) (cond (Nat.blt r 232) (.inr (.boolean, 3)) (.inr (.int, 54)))))))))
def rT (b : Bool) (a k : Nat) : Nat := cond (Nat.blt a 233) (cond (Nat.blt a 116) (cond (Nat.blt a 58) (cond (Nat.blt a 29) (cond (Nat.blt a 14) (cond (Nat.blt a 7) (cond (Nat.blt a 3) (cond (Nat.blt a 1) (cond (Nat.blt k 8) (cond (Nat.blt k 4) (cond (Nat.blt k 2) (cond (Nat.blt k 1) (1) (cond b 19 3)) (cond (Nat.blt k 3) (cond b 3 19) (35))) (cond (Nat.blt k 6) (cond (Nat.blt k 5) (36) (37)) (cond (Nat.blt k 7) (85) (100)))) (cond (Nat.blt k 12) (cond (Nat.blt k 10) (cond (Nat.blt k 9) (109) (114)) (cond (Nat.blt k 11) (120) (140))) (cond (Nat.blt k 14) (cond (Nat.blt k 13) (186) (NUL)) (NUL)))) (cond (Nat.blt a 2) (cond (Nat.blt k 5) (cond (Nat.blt k 2) (cond (Nat.blt k 1) (2) (NUL)) (NUL)) (NUL)) (NUL))) (cond (Nat.blt a 5) (cond (Nat.blt a 4) (cond (Nat.blt k 6) (cond (Nat.blt k 3) (cond (Nat.blt k 1) (4) (cond (Nat.blt k 2) (5) (6))) (cond (Nat.blt k 4) (7) (cond (Nat.blt k 5) (8) (9)))) (cond (Nat.blt k 9) (cond (Nat.blt k 7) (12) (cond (Nat.blt k 8) (15) (18))) (NUL))) (NUL)) (NUL))) (cond (Nat.blt a 10) (cond (Nat.blt a 8) (NUL) (cond (Nat.blt a 9) (NUL) (cond (Nat.blt k 3) (cond (Nat.blt k 1) (10) (cond (Nat.blt k 2) (11) (NUL))) (NUL)))) (cond (Nat.blt a 12) (NUL) (cond (Nat.blt a 13) (cond (Nat.blt k 3) (cond (Nat.blt k 1) (13) (cond (Nat.blt k 2) (14) (NUL))) (NUL)) (NUL))))) (cond (Nat.blt a 21) (cond (Nat.blt a 17) (cond (Nat.blt a 15) (NUL) (cond (Nat.blt a 16) (cond (Nat.blt k 3) (cond (Nat.blt k 1) (16) (cond (Nat.blt k 2) (17) (NUL))) (NUL)) (NUL))) (cond (Nat.blt a 19) (NUL) (cond (Nat.blt a 20) (cond (Nat.blt k 6) (cond (Nat.blt k 3) (cond (Nat.blt k 1) (20) (cond (Nat.blt k 2) (21) (22))) (cond (Nat.blt k 4) (23) (cond (Nat.blt k 5) (24) (25)))) (cond (Nat.blt k 9) (cond (Nat.blt k 7) (28) (cond (Nat.blt k 8) (31) (34))) (NUL))) (NUL)))) (cond (Nat.blt a 25) (NUL) (cond (Nat.blt a 27) (cond (Nat.blt a 26) (cond (Nat.blt k 3) (cond (Nat.blt k 1) (26) (cond (Nat.blt k 2) (27) (NUL))) (NUL)) (NUL)) (cond (Nat.blt a 28) (NUL) (cond (Nat.blt k 3) (cond (Nat.blt k 1) (29) (cond (Nat.blt k 2) (30) (NUL))) (NUL))))))) (cond (Nat.blt a 43) (cond (Nat.blt a 36) (cond (Nat.blt a 32) (cond (Nat.blt a 30) (NUL) (cond (Nat.blt a 31) (NUL) (cond (Nat.blt k 3) (cond (Nat.blt k 1) (32) (cond (Nat.blt k 2) (33) (NUL))) (NUL)))) (NUL)) (cond (Nat.blt a 39) (cond (Nat.blt a 37) (NUL) (cond (Nat.blt a 38) (cond (Nat.blt k 3) (cond (Nat.blt k 1) (38) (cond (Nat.blt k 2) (80) (84))) (NUL)) (cond (Nat.blt k 41) (39 + k) NUL))) (NUL))) (NUL))) (cond (Nat.blt a 87) (cond (Nat.blt a 72) (NUL) (cond (Nat.blt a 79) (NUL) (cond (Nat.blt a 83) (cond (Nat.blt a 81) (cond (Nat.blt a 80) (NUL) (cond (Nat.blt k 3) (81 + k) NUL)) (NUL)) (cond (Nat.blt a 85) (NUL) (cond (Nat.blt a 86) (cond (Nat.blt k 2) (cond (Nat.blt k 1) (86) (92)) (cond (Nat.blt k 3) (99) (NUL))) (cond (Nat.blt k 5) (87 + k) NUL)))))) (cond (Nat.blt a 101) (cond (Nat.blt a 94) (cond (Nat.blt a 90) (NUL) (cond (Nat.blt a 92) (NUL) (cond (Nat.blt a 93) (cond (Nat.blt k 6) (93 + k) NUL) (NUL)))) (cond (Nat.blt a 97) (NUL) (cond (Nat.blt a 99) (NUL) (cond (Nat.blt a 100) (NUL) (cond (Nat.blt k 5) (cond (Nat.blt k 2) (cond (Nat.blt k 1) (101) (102)) (cond (Nat.blt k 3) (103) (cond (Nat.blt k 4) (104) (105)))) (cond (Nat.blt k 7) (cond (Nat.blt k 6) (106) (107)) (cond (Nat.blt k 8) (108) (NUL)))))))) (cond (Nat.blt a 108) (NUL) (cond (Nat.blt a 112) (cond (Nat.blt a 110) (cond (Nat.blt a 109) (NUL) (cond (Nat.blt k 3) (cond (Nat.blt k 1) (110) (cond (Nat.blt k 2) (111) (112))) (cond (Nat.blt k 4) (113) (NUL)))) (NUL)) (cond (Nat.blt a 114) (NUL) (cond (Nat.blt a 115) (cond (Nat.blt k 3) (cond (Nat.blt k 1) (115) (cond (Nat.blt k 2) (116) (117))) (cond (Nat.blt k 5) (cond (Nat.blt k 4) (118) (119)) (NUL))) (NUL)))))))) (cond (Nat.blt a 174) (cond (Nat.blt a 145) (cond (Nat.blt a 130) (cond (Nat.blt a 123) (cond (Nat.blt a 119) (NUL) (cond (Nat.blt a 121) (cond (Nat.blt a 120) (NUL) (cond (Nat.blt k 8) (cond (Nat.blt k 4) (cond (Nat.blt k 2) (cond (Nat.blt k 1) (121) (127)) (cond (Nat.blt k 3) (128) (129))) (cond (Nat.blt k 6) (cond (Nat.blt k 5) (138) (139)) (NUL))) (NUL))) (cond (Nat.blt a 122) (cond (Nat.blt k 5) (122 + k) NUL) (NUL)))) (cond (Nat.blt a 126) (NUL) (cond (Nat.blt a 128) (NUL) (cond (Nat.blt a 129) (NUL) (cond (Nat.blt k 2) (cond (Nat.blt k 1) (130) (131)) (cond (Nat.blt k 3) (137) (NUL))))))) (cond (Nat.blt a 137) (cond (Nat.blt a 133) (cond (Nat.blt a 131) (NUL) (cond (Nat.blt a 132) (cond (Nat.blt k 5) (132 + k) NUL) (NUL))) (NUL)) (cond (Nat.blt a 141) (cond (Nat.blt a 139) (NUL) (cond (Nat.blt a 140) (NUL) (cond (Nat.blt k 5) (cond (Nat.blt k 2) (cond (Nat.blt k 1) (141) (174)) (cond (Nat.blt k 3) (183) (cond (Nat.blt k 4) (184) (185)))) (NUL)))) (cond (Nat.blt a 143) (cond (Nat.blt a 142) (cond (Nat.blt k 32) (142 + k) NUL) (NUL)) (NUL))))) (NUL)) (cond (Nat.blt a 203) (cond (Nat.blt a 188) (cond (Nat.blt a 181) (cond (Nat.blt a 177) (cond (Nat.blt a 175) (cond (Nat.blt k 2) (cond (Nat.blt k 1) (175) (176)) (cond (Nat.blt k 3) (182) (NUL))) (cond (Nat.blt a 176) (NUL) (cond (Nat.blt k 5) (177 + k) NUL))) (NUL)) (cond (Nat.blt a 184) (NUL) (cond (Nat.blt a 186) (NUL) (cond (Nat.blt a 187) (NUL) (cond (Nat.blt k 37) (cond (Nat.blt k 18) (cond (Nat.blt k 9) (cond (Nat.blt k 4) (cond (Nat.blt k 2) (cond (Nat.blt k 1) (188) (NUL)) (NUL)) (NUL)) (cond (Nat.blt k 13) (cond (Nat.blt k 11) (cond (Nat.blt k 10) (NUL) (189)) (cond (Nat.blt k 12) (190) (191))) (cond (Nat.blt k 15) (cond (Nat.blt k 14) (192) (193)) (cond (Nat.blt k 16) (194) (cond (Nat.blt k 17) (195) (196)))))) (cond (Nat.blt k 27) (cond (Nat.blt k 22) (cond (Nat.blt k 20) (cond (Nat.blt k 19) (197) (198)) (cond (Nat.blt k 21) (199) (NUL))) (NUL)) (cond (Nat.blt k 32) (cond (Nat.blt k 29) (cond (Nat.blt k 28) (200) (201)) (cond (Nat.blt k 30) (202) (cond (Nat.blt k 31) (203) (204)))) (cond (Nat.blt k 34) (cond (Nat.blt k 33) (205) (206)) (cond (Nat.blt k 35) (207) (NUL)))))) (cond (Nat.blt k 55) (cond (Nat.blt k 46) (cond (Nat.blt k 41) (cond (Nat.blt k 39) (NUL) (cond (Nat.blt k 40) (208) (209))) (cond (Nat.blt k 43) (cond (Nat.blt k 42) (210) (211)) (cond (Nat.blt k 44) (NUL) (cond (Nat.blt k 45) (NUL) (212))))) (cond (Nat.blt k 50) (cond (Nat.blt k 48) (NUL) (cond (Nat.blt k 49) (213) (214))) (cond (Nat.blt k 52) (cond (Nat.blt k 51) (215) (NUL)) (cond (Nat.blt k 53) (NUL) (cond (Nat.blt k 54) (216) (217)))))) (cond (Nat.blt k 64) (cond (Nat.blt k 59) (cond (Nat.blt k 57) (cond (Nat.blt k 56) (218) (219)) (cond (Nat.blt k 58) (220) (221))) (cond (Nat.blt k 61) (cond (Nat.blt k 60) (222) (223)) (cond (Nat.blt k 62) (224) (cond (Nat.blt k 63) (225) (226))))) (cond (Nat.blt k 69) (cond (Nat.blt k 66) (cond (Nat.blt k 65) (227) (228)) (cond (Nat.blt k 67) (NUL) (cond (Nat.blt k 68) (NUL) (229)))) (cond (Nat.blt k 71) (cond (Nat.blt k 70) (NUL) (230)) (cond (Nat.blt k 72) (231) (cond (Nat.blt k 73) (232) (NUL)))))))))))) (NUL)) (NUL)))) NUL
def mk (S : mS) : mHp := (S.1, S.2.1, rT S.2.2, sT, 233, 54500)
def sI (S : mS) (a k : Nat) (v : Int32) : mS := (up2 S.1 a k v, S.2)
def sJ (S : mS) (a k : Nat) (v : Int64) : mS := (S.1, up2 S.2.1 a k v, S.2.2)
def sC (S : mS) (a d : Nat) (sp dp n : Int32) : mS := (va_up S.1 d (va_cpy (S.1 a) (S.1 d) (mIx sp) (mIx dp) (mIx n)), S.2)
/-- the sheet in use, the spare one -/
def shU (b : Bool) : Nat := cond b 19 3
def shV (b : Bool) : Nat := cond b 3 19
end
section
/-! The same stretches, so laid that each row is worked out once. -/
def mgoK (nL : Nat) (fin : Bool) (nM wM : Nat) : List mI → Bool → Nat → List Value → List Value → mHp → mC
  | [], ok, pc, L, st, h => (ok, pc, L, st, h)
  | q :: qs, ok, pc, L, st, h => cond (Nat.beq pc q.1) (match mDis q.2.1 nL fin nM wM q.1 q.2.2.2.1 q.2.2.2.2 ok L st h with
    | (ok', pc', L', st', h') => mgoK nL fin nM wM qs ok' pc' L' st' h') (mgo nL fin nM wM qs (mBad h))
theorem mgoK_eq {nL : Nat} {fin : Bool} {nM wM : Nat} : ∀ (qs : List mI) (ok : Bool) (pc : Nat) (L st : List Value) (h : mHp), mgoK nL fin nM wM qs ok pc L st h = mgo nL fin nM wM qs (ok, pc, L, st, h)
  | [], _, _, _, _, _ => rfl
  | q :: qs, ok, pc, L, st, h => by
    show cond (Nat.beq pc q.1) (match mst nL fin nM wM q (ok, pc, L, st, h) with
      | (ok', pc', L', st', h') => mgoK nL fin nM wM qs ok' pc' L' st' h') (mgo nL fin nM wM qs (mBad h)) = mgo nL fin nM wM qs (cond (Nat.beq pc q.1) (mst nL fin nM wM q (ok, pc, L, st, h)) (mBad h))
    cases Nat.beq pc q.1
    · rfl
    · show (match mst nL fin nM wM q (ok, pc, L, st, h) with
        | (ok', pc', L', st', h') => mgoK nL fin nM wM qs ok' pc' L' st' h') = mgo nL fin nM wM qs (mst nL fin nM wM q (ok, pc, L, st, h))
      obtain ⟨a1, a2, a3, a4, a5⟩ := mst nL fin nM wM q (ok, pc, L, st, h)
      exact mgoK_eq qs a1 a2 a3 a4 a5
section SF
variable {p : Program} {l : Launch} {e : Env} {R : Room} {s : State} {m : MethodId} {args : Array Value} {below : List Frame} {meth : Method} {c : Code} {Q : State → Prop} {cc : ByteArray} {own : String} {G : mG} {nL n0 w0 nM wM : Nat} {fin : Bool} {T : List mI}
/-- THE STRETCH RULE, the quick one -/
theorem msegK (C : mCx p R s m args meth c G cc own nL fin nM wM n0 w0) (hT : mTok cc own nL fin T) (a n : Nat) {ok : Bool} {pc : Nat} {L st : List Value} {h : mHp} {g : mC} (he : mgoK nL fin nM wM ((T.drop a).take n) ok pc L st h = g) (hok : g.1 = true) (k : mW p l e R s m args below meth c G nL n0 w0 Q g) : mW p l e R s m args below meth c G nL n0 w0 Q (ok, pc, L, st, h) :=
  mseg C hT a n ((mgoK_eq _ _ _ _ _ _).symm.trans he) hok k
end SF
end
section
def kI (r : Nat) (i : Int32) : Bool := kAI 233 (sT r) r i
def kO (r c : Nat) : Bool := kAO 233 (sT r) r c
theorem test0 (x : Int32) (S : mS) : mgoK 2 false 233 54500 [(8, .aload_n 0, 1, 0, 0), (9, .getfield 26, 3, 11, 3), (12, .iconst 0, 1, 0, 0), (13, .iload_n 1, 1, 0, 0), (14, .iadd, 1, 0, 0), (15, .iaload, 1, 0, 0), (16, .bipush 7, 2, 0, 0), (18, .if_icmp .lt 5, 3, 0, 0)] true 8 [.ref 0, .int x] [] (mk S) = ((kI 35 ((0 : Int32) + x) && (kO 0 11 && true)), (if S.1 35 (mIx (0 + x)) < 7 then 23 else 21), [.ref 0, .int x], [], mk S) := rfl
theorem test1 (x : Int32) (S : mS) : mgoK 2 false 233 54500 [(8, .aload_n 0, 1, 0, 0), (9, .getfield 26, 3, 11, 3), (12, .iconst 0, 1, 0, 0), (13, .iload_n 1, 1, 0, 0), (14, .iadd, 1, 0, 0), (15, .iaload, 1, 0, 0), (16, .bipush 7, 2, 0, 0), (18, .if_icmp .lt 5, 3, 0, 0)] true 8 [.ref 0, .int x] [] (mk S) = ((kI 35 ((0 : Int32) + x) && (kO 0 11 && true)), (if S.1 35 (mIx (0 + x)) < 7 then 23 else 21), [.ref 0, .int x], [], mk S) := rfl
theorem test2 (x : Int32) (S : mS) : mgoK 2 false 233 54500 [(8, .aload_n 0, 1, 0, 0), (9, .getfield 26, 3, 11, 3), (12, .iconst 0, 1, 0, 0), (13, .iload_n 1, 1, 0, 0), (14, .iadd, 1, 0, 0), (15, .iaload, 1, 0, 0), (16, .bipush 7, 2, 0, 0), (18, .if_icmp .lt 5, 3, 0, 0)] true 8 [.ref 0, .int x] [] (mk S) = ((kI 35 ((0 : Int32) + x) && (kO 0 11 && true)), (if S.1 35 (mIx (0 + x)) < 7 then 23 else 21), [.ref 0, .int x], [], mk S) := rfl
theorem test3 (x : Int32) (S : mS) : mgoK 2 false 233 54500 [(8, .aload_n 0, 1, 0, 0), (9, .getfield 26, 3, 11, 3), (12, .iconst 0, 1, 0, 0), (13, .iload_n 1, 1, 0, 0), (14, .iadd, 1, 0, 0), (15, .iaload, 1, 0, 0), (16, .bipush 7, 2, 0, 0), (18, .if_icmp .lt 5, 3, 0, 0)] true 8 [.ref 0, .int x] [] (mk S) = ((kI 35 ((0 : Int32) + x) && (kO 0 11 && true)), (if S.1 35 (mIx (0 + x)) < 7 then 23 else 21), [.ref 0, .int x], [], mk S) := rfl
theorem test4 (x : Int32) (S : mS) : mgoK 2 false 233 54500 [(8, .aload_n 0, 1, 0, 0), (9, .getfield 26, 3, 11, 3), (12, .iconst 0, 1, 0, 0), (13, .iload_n 1, 1, 0, 0), (14, .iadd, 1, 0, 0), (15, .iaload, 1, 0, 0), (16, .bipush 7, 2, 0, 0), (18, .if_icmp .lt 5, 3, 0, 0)] true 8 [.ref 0, .int x] [] (mk S) = ((kI 35 ((0 : Int32) + x) && (kO 0 11 && true)), (if S.1 35 (mIx (0 + x)) < 7 then 23 else 21), [.ref 0, .int x], [], mk S) := rfl
theorem test5 (x : Int32) (S : mS) : mgoK 2 false 233 54500 [(8, .aload_n 0, 1, 0, 0), (9, .getfield 26, 3, 11, 3), (12, .iconst 0, 1, 0, 0), (13, .iload_n 1, 1, 0, 0), (14, .iadd, 1, 0, 0), (15, .iaload, 1, 0, 0), (16, .bipush 7, 2, 0, 0), (18, .if_icmp .lt 5, 3, 0, 0)] true 8 [.ref 0, .int x] [] (mk S) = ((kI 35 ((0 : Int32) + x) && (kO 0 11 && true)), (if S.1 35 (mIx (0 + x)) < 7 then 23 else 21), [.ref 0, .int x], [], mk S) := rfl
theorem test6 (x : Int32) (S : mS) : mgoK 2 false 233 54500 [(8, .aload_n 0, 1, 0, 0), (9, .getfield 26, 3, 11, 3), (12, .iconst 0, 1, 0, 0), (13, .iload_n 1, 1, 0, 0), (14, .iadd, 1, 0, 0), (15, .iaload, 1, 0, 0), (16, .bipush 7, 2, 0, 0), (18, .if_icmp .lt 5, 3, 0, 0)] true 8 [.ref 0, .int x] [] (mk S) = ((kI 35 ((0 : Int32) + x) && (kO 0 11 && true)), (if S.1 35 (mIx (0 + x)) < 7 then 23 else 21), [.ref 0, .int x], [], mk S) := rfl
theorem test7 (x : Int32) (S : mS) : mgoK 2 false 233 54500 [(8, .aload_n 0, 1, 0, 0), (9, .getfield 26, 3, 11, 3), (12, .iconst 0, 1, 0, 0), (13, .iload_n 1, 1, 0, 0), (14, .iadd, 1, 0, 0), (15, .iaload, 1, 0, 0), (16, .bipush 7, 2, 0, 0), (18, .if_icmp .lt 5, 3, 0, 0)] true 8 [.ref 0, .int x] [] (mk S) = ((kI 35 ((0 : Int32) + x) && (kO 0 11 && true)), (if S.1 35 (mIx (0 + x)) < 7 then 23 else 21), [.ref 0, .int x], [], mk S) := rfl
theorem test8 (x : Int32) (S : mS) : mgoK 2 false 233 54500 [(8, .aload_n 0, 1, 0, 0), (9, .getfield 26, 3, 11, 3), (12, .iconst 0, 1, 0, 0), (13, .iload_n 1, 1, 0, 0), (14, .iadd, 1, 0, 0), (15, .iaload, 1, 0, 0), (16, .bipush 7, 2, 0, 0), (18, .if_icmp .lt 5, 3, 0, 0)] true 8 [.ref 0, .int x] [] (mk S) = ((kI 35 ((0 : Int32) + x) && (kO 0 11 && true)), (if S.1 35 (mIx (0 + x)) < 7 then 23 else 21), [.ref 0, .int x], [], mk S) := rfl
theorem test9 (x : Int32) (S : mS) : mgoK 2 false 233 54500 [(8, .aload_n 0, 1, 0, 0), (9, .getfield 26, 3, 11, 3), (12, .iconst 0, 1, 0, 0), (13, .iload_n 1, 1, 0, 0), (14, .iadd, 1, 0, 0), (15, .iaload, 1, 0, 0), (16, .bipush 7, 2, 0, 0), (18, .if_icmp .lt 5, 3, 0, 0)] true 8 [.ref 0, .int x] [] (mk S) = ((kI 35 ((0 : Int32) + x) && (kO 0 11 && true)), (if S.1 35 (mIx (0 + x)) < 7 then 23 else 21), [.ref 0, .int x], [], mk S) := rfl
end
