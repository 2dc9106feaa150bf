section
-- ===== PART A: goes FIRST, ahead of the names: the tables' words, and 'selects' of the private methods out of them =====
/-- a private method of a class that the tables say can be made, by its rows of tables_1 -/
def lw_okq (q : MethodName × Nat) : Prop := (q.1.cls ≠ "java/lang/invoke/MethodHandle" ∧ q.1.cls ≠ "java/lang/invoke/VarHandle") ∧ Cond.instantiable q.1.cls q.2 ∈ tables_1 ∧ Cond.privateMethod q.1 ∈ tables_1 ∧ Cond.instanceMethod q.1 ∈ tables_1
theorem lw_p0 : lw_okq (⟨"KitchenSpits", "mixFires", "(J)J"⟩, 2) := ⟨⟨by decide +kernel, by decide +kernel⟩, List.mem_of_getElem? (i := 16) (by decide +kernel), List.mem_of_getElem? (i := 293) (by decide +kernel), List.mem_of_getElem? (i := 294) (by decide +kernel)⟩
theorem lw_p1 : lw_okq (⟨"KitchenSpits", "mixSpits", "(J)J"⟩, 2) := ⟨⟨by decide +kernel, by decide +kernel⟩, List.mem_of_getElem? (i := 16) (by decide +kernel), List.mem_of_getElem? (i := 297) (by decide +kernel), List.mem_of_getElem? (i := 298) (by decide +kernel)⟩
theorem lw_p2 : lw_okq (⟨"KitchenSpits", "mixRoasts", "(J)J"⟩, 2) := ⟨⟨by decide +kernel, by decide +kernel⟩, List.mem_of_getElem? (i := 16) (by decide +kernel), List.mem_of_getElem? (i := 302) (by decide +kernel), List.mem_of_getElem? (i := 303) (by decide +kernel)⟩
theorem lw_p3 : lw_okq (⟨"java/lang/Throwable", "fillInStackTrace", "(I)Ljava/lang/Throwable;"⟩, 6) := ⟨⟨by decide +kernel, by decide +kernel⟩, List.mem_of_getElem? (i := 361) (by decide +kernel), List.mem_of_getElem? (i := 359) (by decide +kernel), List.mem_of_getElem? (i := 360) (by decide +kernel)⟩
theorem lw_p4 : lw_okq (⟨"KitchenSpits", "needFire", "(I)LKitchenSpits$Fire;"⟩, 2) := ⟨⟨by decide +kernel, by decide +kernel⟩, List.mem_of_getElem? (i := 16) (by decide +kernel), List.mem_of_getElem? (i := 400) (by decide +kernel), List.mem_of_getElem? (i := 401) (by decide +kernel)⟩
theorem lw_p5 : lw_okq (⟨"KitchenSpits", "needSpit", "(I)LKitchenSpits$Spit;"⟩, 2) := ⟨⟨by decide +kernel, by decide +kernel⟩, List.mem_of_getElem? (i := 16) (by decide +kernel), List.mem_of_getElem? (i := 461) (by decide +kernel), List.mem_of_getElem? (i := 462) (by decide +kernel)⟩
theorem lw_p6 : lw_okq (⟨"KitchenSpits", "needRoastOf", "(LKitchenSpits$Spit;)LKitchenSpits$Roast;"⟩, 2) := ⟨⟨by decide +kernel, by decide +kernel⟩, List.mem_of_getElem? (i := 16) (by decide +kernel), List.mem_of_getElem? (i := 514) (by decide +kernel), List.mem_of_getElem? (i := 515) (by decide +kernel)⟩
theorem lw_p7 : lw_okq (⟨"KitchenSpits", "needRoast", "(I)LKitchenSpits$Roast;"⟩, 2) := ⟨⟨by decide +kernel, by decide +kernel⟩, List.mem_of_getElem? (i := 16) (by decide +kernel), List.mem_of_getElem? (i := 614) (by decide +kernel), List.mem_of_getElem? (i := 615) (by decide +kernel)⟩
theorem lw_p8 : lw_okq (⟨"KitchenSpits", "aheadUntilDone", "(I)I"⟩, 2) := ⟨⟨by decide +kernel, by decide +kernel⟩, List.mem_of_getElem? (i := 16) (by decide +kernel), List.mem_of_getElem? (i := 676) (by decide +kernel), List.mem_of_getElem? (i := 677) (by decide +kernel)⟩
theorem lw_p9 : lw_okq (⟨"KitchenSpits", "aheadUntilBurnt", "(I)I"⟩, 2) := ⟨⟨by decide +kernel, by decide +kernel⟩, List.mem_of_getElem? (i := 16) (by decide +kernel), List.mem_of_getElem? (i := 688) (by decide +kernel), List.mem_of_getElem? (i := 689) (by decide +kernel)⟩
theorem lw_p10 : lw_okq (⟨"KitchenSpits", "untilDoneTurnedEach", "(II)I"⟩, 2) := ⟨⟨by decide +kernel, by decide +kernel⟩, List.mem_of_getElem? (i := 16) (by decide +kernel), List.mem_of_getElem? (i := 699) (by decide +kernel), List.mem_of_getElem? (i := 700) (by decide +kernel)⟩
theorem lw_p11 : lw_okq (⟨"KitchenSpits", "untilDoneHungOn", "(II)I"⟩, 2) := ⟨⟨by decide +kernel, by decide +kernel⟩, List.mem_of_getElem? (i := 16) (by decide +kernel), List.mem_of_getElem? (i := 711) (by decide +kernel), List.mem_of_getElem? (i := 712) (by decide +kernel)⟩
theorem lw_p12 : lw_okq (⟨"KitchenSpitsModel", "fail", "(I)I"⟩, 11) := ⟨⟨by decide +kernel, by decide +kernel⟩, List.mem_of_getElem? (i := 715) (by decide +kernel), List.mem_of_getElem? (i := 763) (by decide +kernel), List.mem_of_getElem? (i := 764) (by decide +kernel)⟩
theorem lw_p13 : lw_okq (⟨"KitchenSpitsModel", "isFire", "(I)Z"⟩, 11) := ⟨⟨by decide +kernel, by decide +kernel⟩, List.mem_of_getElem? (i := 715) (by decide +kernel), List.mem_of_getElem? (i := 771) (by decide +kernel), List.mem_of_getElem? (i := 772) (by decide +kernel)⟩
theorem lw_p14 : lw_okq (⟨"KitchenSpitsModel", "fi", "(II)I"⟩, 11) := ⟨⟨by decide +kernel, by decide +kernel⟩, List.mem_of_getElem? (i := 715) (by decide +kernel), List.mem_of_getElem? (i := 778) (by decide +kernel), List.mem_of_getElem? (i := 779) (by decide +kernel)⟩
theorem lw_p15 : lw_okq (⟨"KitchenSpitsModel", "letFire", "(III)V"⟩, 11) := ⟨⟨by decide +kernel, by decide +kernel⟩, List.mem_of_getElem? (i := 715) (by decide +kernel), List.mem_of_getElem? (i := 783) (by decide +kernel), List.mem_of_getElem? (i := 784) (by decide +kernel)⟩
def lw_privs_1 : List (MethodName × Nat) := [(⟨"KitchenSpits", "mixFires", "(J)J"⟩, 2), (⟨"KitchenSpits", "mixSpits", "(J)J"⟩, 2), (⟨"KitchenSpits", "mixRoasts", "(J)J"⟩, 2), (⟨"java/lang/Throwable", "fillInStackTrace", "(I)Ljava/lang/Throwable;"⟩, 6), (⟨"KitchenSpits", "needFire", "(I)LKitchenSpits$Fire;"⟩, 2), (⟨"KitchenSpits", "needSpit", "(I)LKitchenSpits$Spit;"⟩, 2), (⟨"KitchenSpits", "needRoastOf", "(LKitchenSpits$Spit;)LKitchenSpits$Roast;"⟩, 2), (⟨"KitchenSpits", "needRoast", "(I)LKitchenSpits$Roast;"⟩, 2), (⟨"KitchenSpits", "aheadUntilDone", "(I)I"⟩, 2), (⟨"KitchenSpits", "aheadUntilBurnt", "(I)I"⟩, 2), (⟨"KitchenSpits", "untilDoneTurnedEach", "(II)I"⟩, 2), (⟨"KitchenSpits", "untilDoneHungOn", "(II)I"⟩, 2), (⟨"KitchenSpitsModel", "fail", "(I)I"⟩, 11), (⟨"KitchenSpitsModel", "isFire", "(I)Z"⟩, 11), (⟨"KitchenSpitsModel", "fi", "(II)I"⟩, 11), (⟨"KitchenSpitsModel", "letFire", "(III)V"⟩, 11)]
theorem lw_r1 : ∀ q ∈ lw_privs_1, lw_okq q := List.forall_mem_cons.mpr ⟨lw_p0, List.forall_mem_cons.mpr ⟨lw_p1, List.forall_mem_cons.mpr ⟨lw_p2, List.forall_mem_cons.mpr ⟨lw_p3, List.forall_mem_cons.mpr ⟨lw_p4, List.forall_mem_cons.mpr ⟨lw_p5, List.forall_mem_cons.mpr ⟨lw_p6, List.forall_mem_cons.mpr ⟨lw_p7, List.forall_mem_cons.mpr ⟨lw_p8, List.forall_mem_cons.mpr ⟨lw_p9, List.forall_mem_cons.mpr ⟨lw_p10, List.forall_mem_cons.mpr ⟨lw_p11, List.forall_mem_cons.mpr ⟨lw_p12, List.forall_mem_cons.mpr ⟨lw_p13, List.forall_mem_cons.mpr ⟨lw_p14, List.forall_mem_cons.mpr ⟨lw_p15, fun _ h => absurd h List.not_mem_nil⟩⟩⟩⟩⟩⟩⟩⟩⟩⟩⟩⟩⟩⟩⟩⟩
theorem lw_p16 : lw_okq (⟨"KitchenSpitsModel", "letSpit", "(III)V"⟩, 11) := ⟨⟨by decide +kernel, by decide +kernel⟩, List.mem_of_getElem? (i := 715) (by decide +kernel), List.mem_of_getElem? (i := 791) (by decide +kernel), List.mem_of_getElem? (i := 792) (by decide +kernel)⟩
theorem lw_p17 : lw_okq (⟨"KitchenSpitsModel", "isSpit", "(I)Z"⟩, 11) := ⟨⟨by decide +kernel, by decide +kernel⟩, List.mem_of_getElem? (i := 715) (by decide +kernel), List.mem_of_getElem? (i := 799) (by decide +kernel), List.mem_of_getElem? (i := 800) (by decide +kernel)⟩
theorem lw_p18 : lw_okq (⟨"KitchenSpitsModel", "sp", "(II)I"⟩, 11) := ⟨⟨by decide +kernel, by decide +kernel⟩, List.mem_of_getElem? (i := 715) (by decide +kernel), List.mem_of_getElem? (i := 803) (by decide +kernel), List.mem_of_getElem? (i := 804) (by decide +kernel)⟩
theorem lw_p19 : lw_okq (⟨"KitchenSpitsModel", "each", "(II)V"⟩, 11) := ⟨⟨by decide +kernel, by decide +kernel⟩, List.mem_of_getElem? (i := 715) (by decide +kernel), List.mem_of_getElem? (i := 811) (by decide +kernel), List.mem_of_getElem? (i := 812) (by decide +kernel)⟩
theorem lw_p20 : lw_okq (⟨"KitchenSpitsModel", "hangNext", "(II)V"⟩, 11) := ⟨⟨by decide +kernel, by decide +kernel⟩, List.mem_of_getElem? (i := 715) (by decide +kernel), List.mem_of_getElem? (i := 823) (by decide +kernel), List.mem_of_getElem? (i := 824) (by decide +kernel)⟩
theorem lw_p21 : lw_okq (⟨"KitchenSpitsModel", "let", "(III)V"⟩, 11) := ⟨⟨by decide +kernel, by decide +kernel⟩, List.mem_of_getElem? (i := 715) (by decide +kernel), List.mem_of_getElem? (i := 827) (by decide +kernel), List.mem_of_getElem? (i := 828) (by decide +kernel)⟩
theorem lw_p22 : lw_okq (⟨"KitchenSpitsModel", "holds", "(I)Z"⟩, 11) := ⟨⟨by decide +kernel, by decide +kernel⟩, List.mem_of_getElem? (i := 715) (by decide +kernel), List.mem_of_getElem? (i := 835) (by decide +kernel), List.mem_of_getElem? (i := 836) (by decide +kernel)⟩
theorem lw_p23 : lw_okq (⟨"KitchenSpitsModel", "turn", "(I)V"⟩, 11) := ⟨⟨by decide +kernel, by decide +kernel⟩, List.mem_of_getElem? (i := 715) (by decide +kernel), List.mem_of_getElem? (i := 839) (by decide +kernel), List.mem_of_getElem? (i := 840) (by decide +kernel)⟩
theorem lw_p24 : lw_okq (⟨"KitchenSpitsModel", "ro", "(II)I"⟩, 11) := ⟨⟨by decide +kernel, by decide +kernel⟩, List.mem_of_getElem? (i := 715) (by decide +kernel), List.mem_of_getElem? (i := 843) (by decide +kernel), List.mem_of_getElem? (i := 844) (by decide +kernel)⟩
theorem lw_p25 : lw_okq (⟨"KitchenSpitsModel", "minuteOn", "()I"⟩, 11) := ⟨⟨by decide +kernel, by decide +kernel⟩, List.mem_of_getElem? (i := 715) (by decide +kernel), List.mem_of_getElem? (i := 863) (by decide +kernel), List.mem_of_getElem? (i := 864) (by decide +kernel)⟩
theorem lw_p26 : lw_okq (⟨"KitchenSpitsModel", "roasted", "(II)V"⟩, 11) := ⟨⟨by decide +kernel, by decide +kernel⟩, List.mem_of_getElem? (i := 715) (by decide +kernel), List.mem_of_getElem? (i := 867) (by decide +kernel), List.mem_of_getElem? (i := 868) (by decide +kernel)⟩
theorem lw_p27 : lw_okq (⟨"KitchenSpitsModel", "glow", "(I)I"⟩, 11) := ⟨⟨by decide +kernel, by decide +kernel⟩, List.mem_of_getElem? (i := 715) (by decide +kernel), List.mem_of_getElem? (i := 871) (by decide +kernel), List.mem_of_getElem? (i := 872) (by decide +kernel)⟩
theorem lw_p28 : lw_okq (⟨"KitchenSpitsModel", "tan", "(III)V"⟩, 11) := ⟨⟨by decide +kernel, by decide +kernel⟩, List.mem_of_getElem? (i := 715) (by decide +kernel), List.mem_of_getElem? (i := 876) (by decide +kernel), List.mem_of_getElem? (i := 877) (by decide +kernel)⟩
theorem lw_p29 : lw_okq (⟨"KitchenSpitsModel", "drip", "(II)V"⟩, 11) := ⟨⟨by decide +kernel, by decide +kernel⟩, List.mem_of_getElem? (i := 715) (by decide +kernel), List.mem_of_getElem? (i := 880) (by decide +kernel), List.mem_of_getElem? (i := 881) (by decide +kernel)⟩
theorem lw_p30 : lw_okq (⟨"KitchenSpitsModel", "told", "(I)I"⟩, 11) := ⟨⟨by decide +kernel, by decide +kernel⟩, List.mem_of_getElem? (i := 715) (by decide +kernel), List.mem_of_getElem? (i := 888) (by decide +kernel), List.mem_of_getElem? (i := 889) (by decide +kernel)⟩
theorem lw_p31 : lw_okq (⟨"KitchenSpitsModel", "fire", "(II)I"⟩, 11) := ⟨⟨by decide +kernel, by decide +kernel⟩, List.mem_of_getElem? (i := 715) (by decide +kernel), List.mem_of_getElem? (i := 904) (by decide +kernel), List.mem_of_getElem? (i := 905) (by decide +kernel)⟩
def lw_privs_2 : List (MethodName × Nat) := [(⟨"KitchenSpitsModel", "letSpit", "(III)V"⟩, 11), (⟨"KitchenSpitsModel", "isSpit", "(I)Z"⟩, 11), (⟨"KitchenSpitsModel", "sp", "(II)I"⟩, 11), (⟨"KitchenSpitsModel", "each", "(II)V"⟩, 11), (⟨"KitchenSpitsModel", "hangNext", "(II)V"⟩, 11), (⟨"KitchenSpitsModel", "let", "(III)V"⟩, 11), (⟨"KitchenSpitsModel", "holds", "(I)Z"⟩, 11), (⟨"KitchenSpitsModel", "turn", "(I)V"⟩, 11), (⟨"KitchenSpitsModel", "ro", "(II)I"⟩, 11), (⟨"KitchenSpitsModel", "minuteOn", "()I"⟩, 11), (⟨"KitchenSpitsModel", "roasted", "(II)V"⟩, 11), (⟨"KitchenSpitsModel", "glow", "(I)I"⟩, 11), (⟨"KitchenSpitsModel", "tan", "(III)V"⟩, 11), (⟨"KitchenSpitsModel", "drip", "(II)V"⟩, 11), (⟨"KitchenSpitsModel", "told", "(I)I"⟩, 11), (⟨"KitchenSpitsModel", "fire", "(II)I"⟩, 11)]
theorem lw_r2 : ∀ q ∈ lw_privs_2, lw_okq q := List.forall_mem_cons.mpr ⟨lw_p16, List.forall_mem_cons.mpr ⟨lw_p17, List.forall_mem_cons.mpr ⟨lw_p18, List.forall_mem_cons.mpr ⟨lw_p19, List.forall_mem_cons.mpr ⟨lw_p20, List.forall_mem_cons.mpr ⟨lw_p21, List.forall_mem_cons.mpr ⟨lw_p22, List.forall_mem_cons.mpr ⟨lw_p23, List.forall_mem_cons.mpr ⟨lw_p24, List.forall_mem_cons.mpr ⟨lw_p25, List.forall_mem_cons.mpr ⟨lw_p26, List.forall_mem_cons.mpr ⟨lw_p27, List.forall_mem_cons.mpr ⟨lw_p28, List.forall_mem_cons.mpr ⟨lw_p29, List.forall_mem_cons.mpr ⟨lw_p30, List.forall_mem_cons.mpr ⟨lw_p31, fun _ h => absurd h List.not_mem_nil⟩⟩⟩⟩⟩⟩⟩⟩⟩⟩⟩⟩⟩⟩⟩⟩
theorem lw_p32 : lw_okq (⟨"KitchenSpitsModel", "spit", "(II)I"⟩, 11) := ⟨⟨by decide +kernel, by decide +kernel⟩, List.mem_of_getElem? (i := 715) (by decide +kernel), List.mem_of_getElem? (i := 924) (by decide +kernel), List.mem_of_getElem? (i := 925) (by decide +kernel)⟩
theorem lw_p33 : lw_okq (⟨"KitchenSpitsModel", "isRoast", "(I)Z"⟩, 11) := ⟨⟨by decide +kernel, by decide +kernel⟩, List.mem_of_getElem? (i := 715) (by decide +kernel), List.mem_of_getElem? (i := 952) (by decide +kernel), List.mem_of_getElem? (i := 953) (by decide +kernel)⟩
theorem lw_p34 : lw_okq (⟨"KitchenSpitsModel", "roast", "(II)I"⟩, 11) := ⟨⟨by decide +kernel, by decide +kernel⟩, List.mem_of_getElem? (i := 715) (by decide +kernel), List.mem_of_getElem? (i := 964) (by decide +kernel), List.mem_of_getElem? (i := 965) (by decide +kernel)⟩
theorem lw_p35 : lw_okq (⟨"KitchenSpitsModel", "done", "(I)Z"⟩, 11) := ⟨⟨by decide +kernel, by decide +kernel⟩, List.mem_of_getElem? (i := 715) (by decide +kernel), List.mem_of_getElem? (i := 984) (by decide +kernel), List.mem_of_getElem? (i := 985) (by decide +kernel)⟩
theorem lw_p36 : lw_okq (⟨"KitchenSpitsModel", "most", "(I)I"⟩, 11) := ⟨⟨by decide +kernel, by decide +kernel⟩, List.mem_of_getElem? (i := 715) (by decide +kernel), List.mem_of_getElem? (i := 988) (by decide +kernel), List.mem_of_getElem? (i := 989) (by decide +kernel)⟩
theorem lw_p37 : lw_okq (⟨"KitchenSpitsModel", "burnt", "(I)Z"⟩, 11) := ⟨⟨by decide +kernel, by decide +kernel⟩, List.mem_of_getElem? (i := 715) (by decide +kernel), List.mem_of_getElem? (i := 996) (by decide +kernel), List.mem_of_getElem? (i := 997) (by decide +kernel)⟩
theorem lw_p38 : lw_okq (⟨"KitchenSpitsModel", "keep", "()V"⟩, 11) := ⟨⟨by decide +kernel, by decide +kernel⟩, List.mem_of_getElem? (i := 715) (by decide +kernel), List.mem_of_getElem? (i := 1004) (by decide +kernel), List.mem_of_getElem? (i := 1005) (by decide +kernel)⟩
theorem lw_p39 : lw_okq (⟨"KitchenSpitsModel", "until", "(IZ)I"⟩, 11) := ⟨⟨by decide +kernel, by decide +kernel⟩, List.mem_of_getElem? (i := 715) (by decide +kernel), List.mem_of_getElem? (i := 1011) (by decide +kernel), List.mem_of_getElem? (i := 1012) (by decide +kernel)⟩
theorem lw_p40 : lw_okq (⟨"KitchenSpitsModel", "bringBack", "()V"⟩, 11) := ⟨⟨by decide +kernel, by decide +kernel⟩, List.mem_of_getElem? (i := 715) (by decide +kernel), List.mem_of_getElem? (i := 1015) (by decide +kernel), List.mem_of_getElem? (i := 1016) (by decide +kernel)⟩
def lw_privs_3 : List (MethodName × Nat) := [(⟨"KitchenSpitsModel", "spit", "(II)I"⟩, 11), (⟨"KitchenSpitsModel", "isRoast", "(I)Z"⟩, 11), (⟨"KitchenSpitsModel", "roast", "(II)I"⟩, 11), (⟨"KitchenSpitsModel", "done", "(I)Z"⟩, 11), (⟨"KitchenSpitsModel", "most", "(I)I"⟩, 11), (⟨"KitchenSpitsModel", "burnt", "(I)Z"⟩, 11), (⟨"KitchenSpitsModel", "keep", "()V"⟩, 11), (⟨"KitchenSpitsModel", "until", "(IZ)I"⟩, 11), (⟨"KitchenSpitsModel", "bringBack", "()V"⟩, 11)]
theorem lw_r3 : ∀ q ∈ lw_privs_3, lw_okq q := List.forall_mem_cons.mpr ⟨lw_p32, List.forall_mem_cons.mpr ⟨lw_p33, List.forall_mem_cons.mpr ⟨lw_p34, List.forall_mem_cons.mpr ⟨lw_p35, List.forall_mem_cons.mpr ⟨lw_p36, List.forall_mem_cons.mpr ⟨lw_p37, List.forall_mem_cons.mpr ⟨lw_p38, List.forall_mem_cons.mpr ⟨lw_p39, List.forall_mem_cons.mpr ⟨lw_p40, fun _ h => absurd h List.not_mem_nil⟩⟩⟩⟩⟩⟩⟩⟩⟩
def lw_privs : List (MethodName × Nat) := lw_privs_1 ++ (lw_privs_2 ++ (lw_privs_3))
def lw_tbl : List Cond := k2_sels lw_privs ++ tables_1
theorem lw_privs_ok : ∀ q ∈ lw_privs, lw_okq q := by
  show ∀ q ∈ lw_privs_1 ++ (lw_privs_2 ++ (lw_privs_3)), lw_okq q
  exact List.forall_mem_append.mpr ⟨lw_r1, List.forall_mem_append.mpr ⟨lw_r2, lw_r3⟩⟩
/-- the streams that the claim lets the run draw from -/
abbrev lw_cs : List Choice := [Jvm.Choice.named "NaN.bits"]
theorem lw_bits : nanBits ∈ lw_cs := by first | decide | exact List.mem_cons_self | simp [lw_cs, nanBits]
-- ===== end of PART A; then your names; then what follows =====
end
section
/-! ===== BEGIN words of one list among another's, by their places ===== -/
theorem goodIn_r {big : List Cond} (ws : List Cond) (ps : List Nat) (hp : ws = ps.filterMap (fun i => big[i]?)) (h : ws.all goodWord = true) : GoodIn big ws := by
  intro w hw
  have h1 := List.all_eq_true.mp h w hw
  rw [hp] at hw
  obtain ⟨i, -, hi⟩ := List.mem_filterMap.mp hw
  have hm : w ∈ big := by first | exact List.mem_of_getElem? hi | exact List.getElem?_mem hi
  exact ⟨hm, good_of_word h1⟩
theorem goodIn_app {big a b : List Cond} (ha : GoodIn big a) (hb : GoodIn big b) : GoodIn big (a ++ b) := fun w h => (List.mem_append.mp h).elim (ha w) (hb w)
theorem goodIn_ca {big a b : List Cond} {c : Cond} (ha : GoodIn big (c :: a)) (hb : GoodIn big b) : GoodIn big (c :: (a ++ b)) := fun w h => (List.mem_cons.mp h).elim (fun e => ha w (List.mem_cons.mpr (Or.inl e))) (fun h => (List.mem_append.mp h).elim (fun h => ha w (List.mem_cons.mpr (Or.inr h))) (hb w))
theorem goodIn_sub {big ws : List Cond} (hm : ∀ w ∈ ws, w ∈ big) (h : ws.all goodWord = true) : GoodIn big ws := fun w hw => ⟨hm w hw, good_of_word (List.all_eq_true.mp h w hw)⟩
/-! ===== END ===== -/

/-! ===== BEGIN exceptions that leave a method, and their catching by the caller (launches without stack traces) ===== -/
section VXA
/-! The laws vx_back, vx_callV, vx_callS, vx_callSW, vx_throw0, vx_throwS follow proofs of the library, with one case more: JvmDerived/Free/Laws.lean (Back.of_free), Shelf42/LK1.lean (callV, callS), Shelf/KitTraced.lean (throwNew0V, throwNewS). -/
/-- where a method has thrown q: the class by its name, the cell, what was written, the world -/
def vx_T (XC : String → State → State → Prop) (st : State) (q : Addr) (t : State) (mc ms : Nat) (free : Addr → Prop) : Prop :=
  ∃ (E : String) (ce : Cell) (L : List Loc), XC E st t ∧ t.heap[q]? = some ce ∧ ce.vm = .none ∧ st.vm.findClass E = some ce.cls ∧ st.WarmedH t.vm ∧ st.sameButNew ({ t with vm := st.vm } : State) L mc ms ∧ ∀ z ∈ L, free z.base
def vx_Q (Qc : Array Value → State → Outcome → State → Prop) (XC : String → State → State → Prop) (mc ms : Nat) (free : Addr → Prop) : Array Value → State → Outcome → State → Prop := fun a st o t =>
  (Qc a st o t ∧ ∃ L, FrameEnd st o t L mc ms ∧ ∀ q ∈ L, free q.base) ∨ ∃ q, o = .threw q ∧ vx_T XC st q t mc ms free
/-- a callee that returns or throws -/
def vx_Met (l : Launch) (y : MethodName) (ws : List Cond) (rm : Room) (Pc : Array Value → State → Prop) (Qc : Array Value → State → Outcome → State → Prop) (XC : String → State → State → Prop) (mc ms : Nat) (free : Addr → Prop) : Prop :=
  MetFree l y (headSpec ws rm) Pc (fun _ _ _ _ _ => True) (vx_Q Qc XC mc ms free)
def vx_Post (XC : String → State → State → Prop) (mc ms : Nat) (free : Addr → Prop) : Pt → Array Value → Addr → Pt → Prop := fun A a q B =>
  ∃ (g : JFrame) (mk : MethodId) (t : State) (L : List Loc) (E : String) (ce : Cell), B.U.heap = t.heap ∧ B.U.vm = t.vm ∧ XC E (A.U.calling g mk a) t ∧ t.heap[q]? = some ce ∧ ce.vm = .none ∧ A.U.vm.findClass E = some ce.cls ∧ B.locs = A.locs ++ L ∧ (∀ z ∈ L, free z.base) ∧ B.cells = A.cells + mc ∧ B.slots = A.slots + ms
def vx_Back (l : Launch) (R : Room) (p : Program) (e : Env) (below : List Frame) (s : State) (sargs : Array Value) (y : MethodName) (len W9 : Nat)
    (Pre : Pt → Array Value → Prop) (Post : Pt → Array Value → Option Value → Pt → Prop) (PostX : Pt → Array Value → Addr → Pt → Prop) : Prop :=
  ∀ (m : MethodId) (meth : Method) (c : Code) (A : Pt) (g : JFrame) (ig : Instr) (mk : MethodId) (a : Array Value),
    Stand p l e R s m sargs below meth c A.U A.locs A.cells A.slots → g.method = m → g.locals.size = c.maxLocals → decode c.code g.pc = .ok (ig, len) →
    2 * g.monitorRoom + (g.stack.map fun v => v.category).sum ≤ W9 → A.U.methodNamed? y = some mk → Pre A a →
    (∃ (v : Option Value) (B : Pt), Stand p l e R s m sargs below meth c B.U B.locs B.cells B.slots ∧ Post A a v B ∧
      Steps p.tables e below (doInvoke e (A.U.setTop g) [] mk a).1 (B.U.setTop { g with pc := g.pc + len, stack := v.toList ++ g.stack })) ∨
    (∃ (q : Addr) (B : Pt), Stand p l e R s m sargs below meth c B.U B.locs B.cells B.slots ∧ PostX A a q B ∧
      Steps p.tables e below (doInvoke e (A.U.setTop g) [] mk a).1 ((B.U.setTop g).pushFrame (.throwing q)))
section Payer
variable {l : Launch} {R : Room} {p : Program} {e : Env} {below : List Frame} {s : State} {sargs : Array Value} {y : MethodName} {len W9 : Nat}
theorem vx_back {ws : List Cond} {rm : Room} {Pc : Array Value → State → Prop} {Qc : Array Value → State → Outcome → State → Prop} {XC : String → State → State → Prop} {mc ms : Nat} {free : Addr → Prop} {bytes : ByteArray} {maxL : Nat} {ret : Option FieldType}
    (hM : vx_Met l y ws rm Pc Qc XC mc ms free) (hblind : FrameBlind Pc) (hrc : rm.cells = mc) (hrs : rm.slots = ms)
    (hframes : rm.frames + 1 ≤ R.frames) (hlocals : W9 + (maxL + 11) + rm.locals ≤ R.locals)
    (hws : ∀ w ∈ ws, ∀ a' U, s.WarmedH U.vm → w.before a' U = true) (hcode : Cond.code y bytes maxL ret ∈ ws) (hinit : ∀ a' U, s.WarmedH U.vm → (Cond.initialized y.cls).before a' U = true) :
    vx_Back l R p e below s sargs y len W9 (PreOf R mc ms Pc) (PostOf Qc mc ms free) (vx_Post XC mc ms free) := by
  intro m meth c A g ig mk a X hg hsize hdg hW hn hp
  have h1 : (headSpec ws rm).pre.before a A.U = true := atoms_intro fun w hw => hws w hw _ _ X.warmed
  have h2 : (Cond.code y bytes maxL ret).before a A.U = true := hws _ hcode _ _ X.warmed
  have h3 : (Cond.initialized y.cls).before a A.U = true := hinit _ _ X.warmed
  have h4 : A.cells + (headSpec ws rm).room.cells ≤ R.cells := by rw [show (headSpec ws rm).room.cells = mc from hrc]; exact hp.1
  have h5 : A.slots + (headSpec ws rm).room.slots ≤ R.slots := by rw [show (headSpec ws rm).room.slots = ms from hrs]; exact hp.2.1
  have hPc : Pc a (A.U.calling g mk a) := hblind _ _ _ _ hp.2.2
  obtain ⟨U, Ls, c0, s0⟩ := A
  dsimp only [Pt.U, Pt.locs, Pt.cells, Pt.slots] at h1 h2 h3 h4 h5 X hn hPc ⊢
  obtain ⟨methY, cY, hmY, hcY, -, hlY, -, -, -, -⟩ := Cond.code_spec hn h2
  obtain ⟨kY, hkY, -⟩ := className_of_methodNamed hn
  have hinitY : kY.init = .initialized := Cond.initialized_spec (findClass_of_methodNamed hn) hkY h3
  have h : At U g.method c below := by rw [hg]; exact X.here
  have hlocals9 : W9 + (maxL + 11) + (headSpec ws rm).room.locals ≤ R.locals := hlocals
  have happ : (headSpec ws rm).appliesLoose y e.platform (U.calling g mk a) = true :=
    Spec.appliesLoose_calling (g := g) h hdg hn hkY hinitY
      (X.room_calling (g := g) (R' := (headSpec ws rm).room) hsize hmY hcY hframes (by rw [hlY]; omega) h4 h5) h1
  obtain ⟨mid, hmid⟩ := h.above
  have hfr : (U.setTop g).frames = (.java g :: mid) ++ below := by rw [State.frames_setTop' g h.top, hmid]; rfl
  obtain ⟨o, s₂, hsteps, -, hend, hq⟩ := Steps.callFree hM p X.admits X.cas X.clock (acts := []) hfr happ hPc trivial
  have hq' : vx_Q Qc XC mc ms free a (U.calling g mk a) o s₂ := hq
  rw [State.frames_setTop' g h.top] at hend
  obtain ⟨g₀, hg0⟩ := Option.isSome_iff_exists.mp h.top
  obtain ⟨r, hr⟩ := State.topJava?_eq_some.mp hg0
  have hr' : (({ U with heap := s₂.heap, slotsUsed := s₂.slotsUsed } : State).setVm s₂.vm).frames = .java g₀ :: r := hr
  rcases hq' with ⟨hqc, L, hfe, hL⟩ | ⟨q, rfl, E, ce, L, hx, hce, hcv, hcl, hW₂, hsm, hL⟩
  · obtain ⟨⟨v, rfl⟩, hW₂, e2, q2, q3, q4, q5, q6⟩ := id hfe
    have e3 : s₂ = ({ (U.calling g mk a).setFrames s₂.frames with heap := s₂.heap, slotsUsed := s₂.slotsUsed } : State).setVm s₂.vm := by
      have : s₂ = ({ s₂ with vm := (U.calling g mk a).vm } : State).setVm s₂.vm := rfl
      rw [e2] at this
      exact this
    obtain ⟨c₂, i₂, len₂, hc₂, hd₂, hf₂⟩ := hend
    have hW' : U.WarmedH s₂.vm := hW₂
    have hcc : c₂ = c := by
      have h1 : s₂.code? g.method = U.code? g.method := by
        rw [State.code?_eq, State.code?_eq, hW'.alike.method?]
      exact Option.some.inj (hc₂.symm.trans (h1.trans h.code))
    subst hcc
    have hlen : len₂ = len := by rw [hdg] at hd₂; cases hd₂; rfl
    subst hlen
    have hs₂ : s₂ = (({ U with heap := s₂.heap, slotsUsed := s₂.slotsUsed } : State).setVm s₂.vm).setTop { g with pc := g.pc + len₂, stack := v.toList ++ g.stack } := by
      refine e3.trans ?_
      rw [hf₂, State.calling_eq h.top, State.setFrames_setFrames, State.setTop_of_frames _ hr', hr]
      rfl
    have hsame : U.sameButNew ({ U with heap := s₂.heap, slotsUsed := s₂.slotsUsed } : State) L mc ms := by
      refine ⟨?_, q2, q3, q4, q5, q6⟩
      obtain ⟨t, ht, -⟩ := State.frames_cons hr
      show ({ U with heap := s₂.heap, slotsUsed := s₂.slotsUsed } : State) = { U.setFrames U.frames with heap := s₂.heap, slotsUsed := s₂.slotsUsed }
      rw [State.setFrames_self ht]
    subst hg
    refine Or.inl ⟨v, ⟨(({ U with heap := s₂.heap, slotsUsed := s₂.slotsUsed } : State).setVm s₂.vm), Ls ++ L, c0 + mc, s0 + ms⟩,
      ⟨X.admits, X.cas, X.clock, X.frames, X.room, X.hears, X.method, X.code, (X.here.setHeapUsed s₂.heap s₂.slotsUsed).setVm hW'.alike, X.tail, State.WarmedH.trans X.warmed hW', X.limits, X.bytes, X.same.trans (hsame.setVm s.vm)⟩,
      ⟨g, mk, s₂, L, rfl, rfl, hqc, rfl, hL, rfl, rfl⟩, ?_⟩
    show Steps p.tables e below _ ((({ U with heap := s₂.heap, slotsUsed := s₂.slotsUsed } : State).setVm s₂.vm).setTop { g with pc := g.pc + len₂, stack := v.toList ++ g.stack })
    rw [← hs₂]
    exact hsteps
  · obtain ⟨e2, q2, q3, q4, q5, q6⟩ := id hsm
    have e3 : s₂ = ({ (U.calling g mk a).setFrames s₂.frames with heap := s₂.heap, slotsUsed := s₂.slotsUsed } : State).setVm s₂.vm := by
      have : s₂ = ({ s₂ with vm := (U.calling g mk a).vm } : State).setVm s₂.vm := rfl
      rw [e2] at this
      exact this
    have hf₂ : s₂.frames = .throwing q :: .java g :: U.frames.tail := hend
    have hW' : U.WarmedH s₂.vm := hW₂
    have hs₂ : s₂ = ((({ U with heap := s₂.heap, slotsUsed := s₂.slotsUsed } : State).setVm s₂.vm).setTop g).pushFrame (.throwing q) := by
      refine e3.trans ?_
      rw [hf₂, State.calling_eq h.top, State.setFrames_setFrames, State.pushFrame, State.frames_setTop _ hr', State.setTop_of_frames _ hr', State.setFrames_setFrames, hr]
      rfl
    have hsame : U.sameButNew ({ U with heap := s₂.heap, slotsUsed := s₂.slotsUsed } : State) L mc ms := by
      refine ⟨?_, q2, q3, q4, q5, q6⟩
      obtain ⟨t, ht, -⟩ := State.frames_cons hr
      show ({ U with heap := s₂.heap, slotsUsed := s₂.slotsUsed } : State) = { U.setFrames U.frames with heap := s₂.heap, slotsUsed := s₂.slotsUsed }
      rw [State.setFrames_self ht]
    subst hg
    refine Or.inr ⟨q, ⟨(({ U with heap := s₂.heap, slotsUsed := s₂.slotsUsed } : State).setVm s₂.vm), Ls ++ L, c0 + mc, s0 + ms⟩,
      ⟨X.admits, X.cas, X.clock, X.frames, X.room, X.hears, X.method, X.code, (X.here.setHeapUsed s₂.heap s₂.slotsUsed).setVm hW'.alike, X.tail, State.WarmedH.trans X.warmed hW', X.limits, X.bytes, X.same.trans (hsame.setVm s.vm)⟩,
      ⟨g, mk, s₂, L, E, ce, rfl, rfl, hx, hce, hcv, hcl, rfl, hL, rfl, rfl⟩, ?_⟩
    show Steps p.tables e below _ (((({ U with heap := s₂.heap, slotsUsed := s₂.slotsUsed } : State).setVm s₂.vm).setTop g).pushFrame (.throwing q))
    rw [← hs₂]
    exact hsteps
end Payer
section Calls
variable {p : Program} {l : Launch} {e : Env} {R : Room} {s : State} {m : MethodId} {args : Array Value} {below : List Frame} {meth : Method} {c : Code} {T : State} {locs : List Loc} {cells slots : Nat}
theorem vx_callV (X : Stand p l e R s m args below meth c T locs cells slots) (hexec : p.tables.exec = Jvm.exec) {own C : String} {index : Nat} {y : MethodName} {bytes : ByteArray} {maxL : Nat} {ret : Option FieldType}
    (hown : s.vm.findClass own = some m.cls) (hlink : (Cond.methodLink own index y).before args s = true) (hinst : (Cond.instanceMethod y).before args s = true) (hsel : (Cond.selects C y y).before args s = true)
    (hcode : (Cond.code y bytes maxL ret).before args s = true) (hy : y.cls ≠ "java/lang/invoke/MethodHandle" ∧ y.cls ≠ "java/lang/invoke/VarHandle")
    {W9 : Nat} {Pre : Pt → Array Value → Prop} {Post : Pt → Array Value → Option Value → Pt → Prop} {PostX : Pt → Array Value → Addr → Pt → Prop} (hK : vx_Back l R p e below s args y 3 W9 Pre Post PostX)
    {b : Addr} {cellB : Cell} (hcell : T.heap[b]? = some cellB) (hobj : cellB.vm.isStatics = false) (hcls : s.vm.findClass C = some cellB.cls)
    {g : JFrame} (hg : g.method = m) (hsize : g.locals.size = c.maxLocals) {argsL rest : List Value} (hlen : ∀ sig, parseMethodDescriptor y.desc = some sig → argsL.length = sig.parameters.length)
    (hstack : g.stack = argsL.reverse ++ .ref b :: rest) (hW : 2 * g.monitorRoom + (rest.map fun v => v.category).sum ≤ W9) (hdg : decode c.code g.pc = .ok (.invokevirtual index, 3))
    (hpre : ∀ vm₁, s.WarmedH vm₁ → Pre ⟨T.setVm vm₁, locs, cells, slots⟩ (Value.ref b :: argsL).toArray) :
    (∃ (v : Option Value) (vm₁ : Vm) (B : Pt), s.WarmedH vm₁ ∧ Stand p l e R s m args below meth c B.U B.locs B.cells B.slots ∧ Post ⟨T.setVm vm₁, locs, cells, slots⟩ (Value.ref b :: argsL).toArray v B ∧
      ∀ target, Steps p.tables e below (B.U.setTop { g with pc := g.pc + 3, stack := v.toList ++ rest }) target → Steps p.tables e below (T.setTop g) target) ∨
    (∃ (q : Addr) (vm₁ : Vm) (B : Pt), s.WarmedH vm₁ ∧ Stand p l e R s m args below meth c B.U B.locs B.cells B.slots ∧ PostX ⟨T.setVm vm₁, locs, cells, slots⟩ (Value.ref b :: argsL).toArray q B ∧
      Steps p.tables e below (T.setTop g) ((B.U.setTop { g with stack := rest }).pushFrame (.throwing q))) := by
  obtain ⟨mk, methM, hnamed, hmethM, hstM, habM⟩ := Cond.instanceMethod_spec hinst
  obtain ⟨methM', cM, hmethM', -, -, -, -, -, -, hsigM⟩ := Cond.code_spec hnamed hcode
  cases hmethM.symm.trans hmethM'
  obtain ⟨c2, r2, m2, q1, q2, q3, q4, kP, hkP, hkPi⟩ := Cond.selects_spec hsel
  cases hcls.symm.trans q1
  cases (State.methodFound?_of_named hnamed hy).symm.trans q2
  cases hnamed.symm.trans q3
  have hselP : selectMethod e.platform s.vm cellB.cls mk = .method mk := by rw [Launch.admits_selectMethod X.admits]; exact q4
  obtain ⟨vm₁, X₁, hstep₁⟩ := X.invokevirtual hexec hown hlink hnamed hmethM hstM hkP hkPi hy (a := b) (cell := cellB) hcell
    (fun z h => by rw [h] at hobj; cases hobj) hselP hmethM habM hkP hkPi (g := g) hg (argsL := argsL) (rest := rest) (hlen _ hsigM) hstack hdg
  rcases hK m meth c ⟨T.setVm vm₁, locs, cells, slots⟩ { g with stack := rest } (.invokevirtual index) mk (Value.ref b :: argsL).toArray X₁ hg hsize hdg hW (X₁.named hnamed) (hpre vm₁ X₁.warmed) with ⟨v, B, X', hpost, hsteps⟩ | ⟨q, B, X', hpost, hsteps⟩
  · exact Or.inl ⟨v, vm₁, B, X₁.warmed, X', hpost, fun target h => hstep₁ _ fun acts => by rw [doInvoke_state]; exact hsteps.trans h⟩
  · exact Or.inr ⟨q, vm₁, B, X₁.warmed, X', hpost, hstep₁ _ fun acts => by rw [doInvoke_state]; exact hsteps⟩
theorem vx_callS (X : Stand p l e R s m args below meth c T locs cells slots) (hexec : p.tables.exec = Jvm.exec) {own : String} {index : Nat} {y : MethodName} {bytes : ByteArray} {maxL : Nat} {ret : Option FieldType}
    (hown : s.vm.findClass own = some m.cls) (hlink : (Cond.methodLink own index y).before args s = true) (hstat : (Cond.static y).before args s = true) (hinit : (Cond.initialized y.cls).before args s = true)
    (hcode : (Cond.code y bytes maxL ret).before args s = true) (hy : y.cls ≠ "java/lang/invoke/MethodHandle" ∧ y.cls ≠ "java/lang/invoke/VarHandle")
    {W9 : Nat} {Pre : Pt → Array Value → Prop} {Post : Pt → Array Value → Option Value → Pt → Prop} {PostX : Pt → Array Value → Addr → Pt → Prop} (hK : vx_Back l R p e below s args y 3 W9 Pre Post PostX)
    {g : JFrame} (hg : g.method = m) (hsize : g.locals.size = c.maxLocals) {argsL rest : List Value} (hlen : ∀ sig, parseMethodDescriptor y.desc = some sig → argsL.length = sig.parameters.length)
    (hstack : g.stack = argsL.reverse ++ rest) (hW : 2 * g.monitorRoom + (rest.map fun v => v.category).sum ≤ W9) (hdg : decode c.code g.pc = .ok (.invokestatic index, 3))
    (hpre : ∀ vm₁, s.WarmedH vm₁ → Pre ⟨T.setVm vm₁, locs, cells, slots⟩ argsL.toArray) :
    (∃ (v : Option Value) (vm₁ : Vm) (B : Pt), s.WarmedH vm₁ ∧ Stand p l e R s m args below meth c B.U B.locs B.cells B.slots ∧ Post ⟨T.setVm vm₁, locs, cells, slots⟩ argsL.toArray v B ∧
      ∀ target, Steps p.tables e below (B.U.setTop { g with pc := g.pc + 3, stack := v.toList ++ rest }) target → Steps p.tables e below (T.setTop g) target) ∨
    (∃ (q : Addr) (vm₁ : Vm) (B : Pt), s.WarmedH vm₁ ∧ Stand p l e R s m args below meth c B.U B.locs B.cells B.slots ∧ PostX ⟨T.setVm vm₁, locs, cells, slots⟩ argsL.toArray q B ∧
      Steps p.tables e below (T.setTop g) ((B.U.setTop { g with stack := rest }).pushFrame (.throwing q))) := by
  obtain ⟨mk, hnamed⟩ := Cond.code_named hcode
  obtain ⟨methM, cM, hmethM, -, -, -, -, -, -, hsigM⟩ := Cond.code_spec hnamed hcode
  have hstatic : methM.isStatic = true := Cond.static_spec hnamed hmethM hstat
  obtain ⟨kP, hkP, -⟩ := className_of_methodNamed hnamed
  have hinitP : kP.init = .initialized := Cond.initialized_spec (findClass_of_methodNamed hnamed) hkP hinit
  obtain ⟨vm₁, X₁, hstep₁⟩ := X.invokestatic hexec hown hlink hnamed hmethM hstatic hkP hinitP hy (g := g) hg (argsL := argsL) (rest := rest) (hlen _ hsigM) hstack hdg
  rcases hK m meth c ⟨T.setVm vm₁, locs, cells, slots⟩ { g with stack := rest } (.invokestatic index) mk argsL.toArray X₁ hg hsize hdg hW (X₁.named hnamed) (hpre vm₁ X₁.warmed) with ⟨v, B, X', hpost, hsteps⟩ | ⟨q, B, X', hpost, hsteps⟩
  · exact Or.inl ⟨v, vm₁, B, X₁.warmed, X', hpost, fun target h => hstep₁ _ fun acts => by rw [doInvoke_state]; exact hsteps.trans h⟩
  · exact Or.inr ⟨q, vm₁, B, X₁.warmed, X', hpost, hstep₁ _ fun acts => by rw [doInvoke_state]; exact hsteps⟩
end Calls
theorem vx_cls {s : State} {T : State} {vm₁ : Vm} {E : String} {k : ClassId} (hW : s.WarmedH vm₁) (h : (T.setVm vm₁).vm.findClass E = some k) : s.vm.findClass E = some k := by
  have h1 : vm₁.findClass E = some k := h
  rw [hW.alike.findClass] at h1
  exact h1
/-- the method's frame g, with q thrown over it -/
def vx_W (p : Program) (l : Launch) (e : Env) (R : Room) (s : State) (m : MethodId) (args : Array Value) (below : List Frame) (meth : Method) (c : Code) (H : Heap) (locs : List Loc) (cells slots : Nat) (Q : State → Prop) (g : JFrame) (q : Addr) : Prop :=
  ∀ T : State, T.heap = H → Stand p l e R s m args below meth c T locs cells slots → ∃ t, Steps p.tables e below ((T.setTop g).pushFrame (.throwing q)) t ∧ Q t
def vx_Run (p : Program) (l : Launch) (e : Env) (R : Room) (s : State) (m : MethodId) (args : Array Value) (below : List Frame) (meth : Method) (c : Code) (H : Heap) (locs : List Loc) (cells slots mc ms : Nat) (g : JFrame) (rest : List Value) (Qa : State → Outcome → State → Prop) (XC : String → State → State → Prop) (free : Addr → Prop) : Prop :=
  ∀ T : State, T.heap = H → Stand p l e R s m args below meth c T locs cells slots →
    (∃ (v : Option Value) (st₀ t T' : State) (L : List Loc), st₀.heap = H ∧ Stand p l e R s m args below meth c T' (locs ++ L) (cells + mc) (slots + ms) ∧ (∀ q ∈ L, free q.base) ∧ T'.heap = t.heap ∧ T'.vm = t.vm ∧ Qa st₀ (.returned v) t ∧
      Goes p e below T g T' { g with pc := g.pc + 3, stack := v.toList ++ rest }) ∨
    (∃ (q : Addr) (st₀ t T' : State) (L : List Loc) (E : String) (ce : Cell), st₀.heap = H ∧ Stand p l e R s m args below meth c T' (locs ++ L) (cells + mc) (slots + ms) ∧ (∀ z ∈ L, free z.base) ∧ T'.heap = t.heap ∧ T'.vm = t.vm ∧ XC E st₀ t ∧ t.heap[q]? = some ce ∧ ce.vm = .none ∧ s.vm.findClass E = some ce.cls ∧
      Steps p.tables e below (T.setTop g) ((T'.setTop { g with stack := rest }).pushFrame (.throwing q)))
def vx_X {S : Type} (px : S → Prop) (B : String → S → State → Prop) (A : Nat → Prop) : String → State → State → Prop := fun E st t => ∃ u : S, px u ∧ B E u t ∧ va_F A st t
section Runs
variable {p : Program} {l : Launch} {e : Env} {R : Room} {s : State} {m : MethodId} {args : Array Value} {below : List Frame} {meth : Method} {c : Code} {H : Heap} {locs : List Loc} {cells slots : Nat}
variable {y : MethodName} {bytes cc : ByteArray} {maxL nL mc ms n index : Nat} {ret : Option FieldType} {ws : List Cond} {rm : Room} {Pc : Array Value → State → Prop} {Qc : Array Value → State → Outcome → State → Prop} {XC : String → State → State → Prop} {free : Addr → Prop} {Ts : List Cond} {own C : String} {b : Addr} {As rest : List Value} {g : JFrame}
theorem vx_callBack (cb : CallB R s args own index y bytes maxL ret ws rm mc ms n) (hM : vx_Met l y ws rm Pc Qc XC mc ms free) (hbl : FrameBlind Pc) : vx_Back l R p e below s args y 3 8 (PreOf R mc ms Pc) (PostOf Qc mc ms free) (vx_Post XC mc ms free) := by
  obtain ⟨hrc, hrs, hfr, hlo, hws, hcw, -, hini, -⟩ := cb
  exact vx_back (bytes := bytes) (maxL := maxL) (ret := ret) hM hbl hrc hrs hfr hlo hws hcw (fun a' U hW => word_at hW (Or.inl (by first | rfl | simp [Cond.onTables, Cond.keeps, Cond.steady])) hini)
theorem vx_runV (S : CallFix p m c cc nL s args Ts own) (hM : vx_Met l y ws rm Pc Qc XC mc ms free) (cw : CallW R s args own C index y bytes maxL ret ws rm mc ms n) (hp : PreV s H C b Pc As)
    (hg : g.method = m) (hn : As.length = n) (hsize : g.locals.size = nL) (hstack : g.stack = As.reverse ++ .ref b :: rest) (hW : 2 * g.monitorRoom + (rest.map fun v => v.category).sum ≤ 8) (hdg : decode cc g.pc = .ok (.invokevirtual index, 3)) (hf : cells + mc ≤ R.cells ∧ slots + ms ≤ R.slots) :
    vx_Run p l e R s m args below meth c H locs cells slots mc ms g rest (Qc (Value.ref b :: As).toArray) XC free := by
  have hK : vx_Back l R p e below s args y 3 8 (PreOf R mc ms Pc) (PostOf Qc mc ms free) (vx_Post XC mc ms free) := vx_callBack cw.1 hM hp.1
  obtain ⟨⟨-, -, -, -, -, -, hcode, -, hy, hlen, hl⟩, hin, hse⟩ := cw
  obtain ⟨hx, hb, hml, ho, -⟩ := S
  obtain ⟨-, ⟨cellB, hcB, hoB, hclB⟩, hPc⟩ := hp
  intro T hT X
  rcases vx_callV X hx (C := C) (bytes := bytes) (maxL := maxL) (ret := ret) ho hl hin hse hcode hy hK (by rw [hT]; exact hcB) hoB hclB hg (hsize.trans hml.symm) (argsL := As) (rest := rest) (fun sig h => hn.trans (hlen sig h)) hstack hW (by rw [hb]; exact hdg)
    (fun vm₁ hW₁ => ⟨hf.1, hf.2, hPc (T.setVm vm₁) hT hW₁⟩) with ⟨v, vm₁, ⟨U', l2, c2, s2⟩, hW₁, X', ⟨g', mk, t, L, e1, e2, hq, h1, hL, h2, h3⟩, st⟩ | ⟨q, vm₁, ⟨U', l2, c2, s2⟩, hW₁, X', ⟨g', mk, t, L, E, ce, e1, e2, hq, hce, hcv, hcl, h1, hL, h2, h3⟩, st⟩
  · dsimp only [Pt.U, Pt.locs, Pt.cells, Pt.slots] at X' e1 e2 h1 h2 h3 st
    subst h1; subst h2; subst h3
    exact Or.inl ⟨v, (T.setVm vm₁).calling g' mk (Value.ref b :: As).toArray, t, U', L, hT, X', hL, e1, e2, hq, st⟩
  · dsimp only [Pt.U, Pt.locs, Pt.cells, Pt.slots] at X' e1 e2 h1 h2 h3 st hcl
    subst h1; subst h2; subst h3
    exact Or.inr ⟨q, (T.setVm vm₁).calling g' mk (Value.ref b :: As).toArray, t, U', L, E, ce, hT, X', hL, e1, e2, hq, hce, hcv, vx_cls hW₁ hcl, st⟩
theorem vx_runS (S : CallFix p m c cc nL s args Ts own) (hM : vx_Met l y ws rm Pc Qc XC mc ms free) (cw : CallB R s args own index y bytes maxL ret ws rm mc ms n ∧ (Cond.static y).before args s = true) (hp : PreS s H Pc As)
    (hg : g.method = m) (hn : As.length = n) (hsize : g.locals.size = nL) (hstack : g.stack = As.reverse ++ rest) (hW : 2 * g.monitorRoom + (rest.map fun v => v.category).sum ≤ 8) (hdg : decode cc g.pc = .ok (.invokestatic index, 3)) (hf : cells + mc ≤ R.cells ∧ slots + ms ≤ R.slots) :
    vx_Run p l e R s m args below meth c H locs cells slots mc ms g rest (Qc As.toArray) XC free := by
  have hK : vx_Back l R p e below s args y 3 8 (PreOf R mc ms Pc) (PostOf Qc mc ms free) (vx_Post XC mc ms free) := vx_callBack cw.1 hM hp.1
  obtain ⟨⟨-, -, -, -, -, -, hcode, hini, hy, hlen, hl⟩, hstt⟩ := cw
  obtain ⟨hx, hb, hml, ho, -⟩ := S
  intro T hT X
  rcases vx_callS X hx (bytes := bytes) (maxL := maxL) (ret := ret) ho hl hstt hini hcode hy hK hg (hsize.trans hml.symm) (argsL := As) (rest := rest) (fun sig h => hn.trans (hlen sig h)) hstack hW (by rw [hb]; exact hdg)
    (fun vm₁ hW₁ => ⟨hf.1, hf.2, hp.2 (T.setVm vm₁) hT hW₁⟩) with ⟨v, vm₁, ⟨U', l2, c2, s2⟩, hW₁, X', ⟨g', mk, t, L, e1, e2, hq, h1, hL, h2, h3⟩, st⟩ | ⟨q, vm₁, ⟨U', l2, c2, s2⟩, hW₁, X', ⟨g', mk, t, L, E, ce, e1, e2, hq, hce, hcv, hcl, h1, hL, h2, h3⟩, st⟩
  · dsimp only [Pt.U, Pt.locs, Pt.cells, Pt.slots] at X' e1 e2 h1 h2 h3 st
    subst h1; subst h2; subst h3
    exact Or.inl ⟨v, (T.setVm vm₁).calling g' mk As.toArray, t, U', L, hT, X', hL, e1, e2, hq, st⟩
  · dsimp only [Pt.U, Pt.locs, Pt.cells, Pt.slots] at X' e1 e2 h1 h2 h3 st hcl
    subst h1; subst h2; subst h3
    exact Or.inr ⟨q, (T.setVm vm₁).calling g' mk As.toArray, t, U', L, E, ce, hT, X', hL, e1, e2, hq, hce, hcv, vx_cls hW₁ hcl, st⟩
end Runs
section Rows
variable {p : Program} {l : Launch} {e : Env} {R : Room} {s : State} {m : MethodId} {args : Array Value} {below : List Frame} {meth : Method} {c : Code} {H : Heap} {locs : List Loc} {cells slots : Nat} {Q : State → Prop}
variable {mc ms : Nat} {free : Addr → Prop} {A0 A1 : Nat → Prop} {H0 : Heap} {a : Array Value} {pc : Nat} {ls : Array Slot} {st0 rest : List Value}
theorem vx_keep {st₀ t T' : State} {L : List Loc} (h0 : st₀.heap = H) (e1 : T'.heap = t.heap) (hS : va_S A0 H0 H locs) (hA : ∀ q, q < H.size → A1 q → A0 q) (hf : ∀ q, free q → A0 q) (hL : ∀ q ∈ L, free q.base) (hF : va_F A1 st₀ t) :
    H.size ≤ T'.heap.size ∧ (∀ q : Nat, q < H.size → ¬ A1 q → T'.heap[q]? = H[q]?) ∧ va_S A0 H0 T'.heap (locs ++ L) := by
  obtain ⟨hz, hk⟩ := hF
  rw [h0] at hz hk
  exact ⟨by rw [e1]; exact hz, fun q h1 h2 => by rw [e1]; exact hk q h1 h2,
    ⟨Nat.le_trans hS.1 (by rw [e1]; exact hz), fun q h1 h2 => by rw [e1, hk q (Nat.lt_of_lt_of_le h1 hS.1) (fun z => h2 (hA q (Nat.lt_of_lt_of_le h1 hS.1) z))]; exact hS.2.1 q h1 h2, fun q hq => by
      rcases List.mem_append.mp hq with h | h
      · exact hS.2.2 q h
      · exact hf _ (hL q h)⟩⟩
theorem vx_calli {S SX : Type} {post : Int32 → S → Prop} {px : SX → Prop} {B : S → State → Prop} {BX : String → SX → State → Prop} {AX : Nat → Prop} (hr : vx_Run p l e R s m args below meth c H locs cells slots mc ms (F0 m pc ls st0) rest (va_Qi post B A1 a) (vx_X px BX AX) free) (hS : va_S A0 H0 H locs) (hA : ∀ q, q < H.size → A1 q → A0 q) (hf : ∀ q, free q → A0 q) (hAX : ∀ q, q < H.size → AX q → A0 q)
    (kx : ∀ (E : String) (ce : Cell) (q9 : Addr) (u : SX) (t : State) (H1 : Heap) (locs1 : List Loc), t.heap = H1 → s.vm.Alike t.vm → px u → BX E u t → H.size ≤ H1.size → (∀ q : Nat, q < H.size → ¬ AX q → H1[q]? = H[q]?) → va_S A0 H0 H1 locs1 → H1[q9]? = some ce → ce.vm = .none → s.vm.findClass E = some ce.cls → vx_W p l e R s m args below meth c H1 locs1 (cells + mc) (slots + ms) Q (F0 m pc ls rest) q9)
    (kk : ∀ (r : Int32) (u : S) (t : State) (H1 : Heap) (locs1 : List Loc), t.heap = H1 → s.vm.Alike t.vm → post r u → B u t → H.size ≤ H1.size → (∀ q : Nat, q < H.size → ¬ A1 q → H1[q]? = H[q]?) → va_S A0 H0 H1 locs1 → W p l e R s m args below meth c H1 locs1 (cells + mc) (slots + ms) Q (F0 m (pc + 3) ls (.int r :: rest))) : W p l e R s m args below meth c H locs cells slots Q (F0 m pc ls st0) := by
  intro T hT X
  rcases hr T hT X with ⟨v, st₀, t, T', L, h0, X', hL, e1, e2, ⟨⟨r, u, hv, hp, hb⟩, hF⟩, st⟩ | ⟨q, st₀, t, T', L, E, ce, h0, X', hL, e1, e2, ⟨u, hp, hb, hF⟩, hce, hcv, hcl, st⟩
  · cases hv
    obtain ⟨k1, k2, k3⟩ := vx_keep h0 e1 hS hA hf hL hF
    obtain ⟨t2, a1, b1⟩ := kk r u t T'.heap (locs ++ L) e1.symm (by rw [← e2]; exact X'.warmed.alike) hp hb k1 k2 k3 T' rfl X'
    exact ⟨t2, st t2 a1, b1⟩
  · obtain ⟨k1, k2, k3⟩ := vx_keep h0 e1 hS hAX hf hL hF
    obtain ⟨t2, a1, b1⟩ := kx E ce q u t T'.heap (locs ++ L) e1.symm (by rw [← e2]; exact X'.warmed.alike) hp hb k1 k2 k3 (by rw [e1]; exact hce) hcv hcl T' rfl X'
    exact ⟨t2, st.trans a1, b1⟩
theorem vx_calll {S SX : Type} {post : Int64 → S → Prop} {px : SX → Prop} {B : S → State → Prop} {BX : String → SX → State → Prop} {AX : Nat → Prop} (hr : vx_Run p l e R s m args below meth c H locs cells slots mc ms (F0 m pc ls st0) rest (va_Ql post B A1 a) (vx_X px BX AX) free) (hS : va_S A0 H0 H locs) (hA : ∀ q, q < H.size → A1 q → A0 q) (hf : ∀ q, free q → A0 q) (hAX : ∀ q, q < H.size → AX q → A0 q)
    (kx : ∀ (E : String) (ce : Cell) (q9 : Addr) (u : SX) (t : State) (H1 : Heap) (locs1 : List Loc), t.heap = H1 → s.vm.Alike t.vm → px u → BX E u t → H.size ≤ H1.size → (∀ q : Nat, q < H.size → ¬ AX q → H1[q]? = H[q]?) → va_S A0 H0 H1 locs1 → H1[q9]? = some ce → ce.vm = .none → s.vm.findClass E = some ce.cls → vx_W p l e R s m args below meth c H1 locs1 (cells + mc) (slots + ms) Q (F0 m pc ls rest) q9)
    (kk : ∀ (r : Int64) (u : S) (t : State) (H1 : Heap) (locs1 : List Loc), t.heap = H1 → s.vm.Alike t.vm → post r u → B u t → H.size ≤ H1.size → (∀ q : Nat, q < H.size → ¬ A1 q → H1[q]? = H[q]?) → va_S A0 H0 H1 locs1 → W p l e R s m args below meth c H1 locs1 (cells + mc) (slots + ms) Q (F0 m (pc + 3) ls (.long r :: rest))) : W p l e R s m args below meth c H locs cells slots Q (F0 m pc ls st0) := by
  intro T hT X
  rcases hr T hT X with ⟨v, st₀, t, T', L, h0, X', hL, e1, e2, ⟨⟨r, u, hv, hp, hb⟩, hF⟩, st⟩ | ⟨q, st₀, t, T', L, E, ce, h0, X', hL, e1, e2, ⟨u, hp, hb, hF⟩, hce, hcv, hcl, st⟩
  · cases hv
    obtain ⟨k1, k2, k3⟩ := vx_keep h0 e1 hS hA hf hL hF
    obtain ⟨t2, a1, b1⟩ := kk r u t T'.heap (locs ++ L) e1.symm (by rw [← e2]; exact X'.warmed.alike) hp hb k1 k2 k3 T' rfl X'
    exact ⟨t2, st t2 a1, b1⟩
  · obtain ⟨k1, k2, k3⟩ := vx_keep h0 e1 hS hAX hf hL hF
    obtain ⟨t2, a1, b1⟩ := kx E ce q u t T'.heap (locs ++ L) e1.symm (by rw [← e2]; exact X'.warmed.alike) hp hb k1 k2 k3 (by rw [e1]; exact hce) hcv hcl T' rfl X'
    exact ⟨t2, st.trans a1, b1⟩
theorem vx_callf {S SX : Type} {post : UInt32 → S → Prop} {px : SX → Prop} {B : S → State → Prop} {BX : String → SX → State → Prop} {AX : Nat → Prop} (hr : vx_Run p l e R s m args below meth c H locs cells slots mc ms (F0 m pc ls st0) rest (va_Qf post B A1 a) (vx_X px BX AX) free) (hS : va_S A0 H0 H locs) (hA : ∀ q, q < H.size → A1 q → A0 q) (hf : ∀ q, free q → A0 q) (hAX : ∀ q, q < H.size → AX q → A0 q)
    (kx : ∀ (E : String) (ce : Cell) (q9 : Addr) (u : SX) (t : State) (H1 : Heap) (locs1 : List Loc), t.heap = H1 → s.vm.Alike t.vm → px u → BX E u t → H.size ≤ H1.size → (∀ q : Nat, q < H.size → ¬ AX q → H1[q]? = H[q]?) → va_S A0 H0 H1 locs1 → H1[q9]? = some ce → ce.vm = .none → s.vm.findClass E = some ce.cls → vx_W p l e R s m args below meth c H1 locs1 (cells + mc) (slots + ms) Q (F0 m pc ls rest) q9)
    (kk : ∀ (r : UInt32) (u : S) (t : State) (H1 : Heap) (locs1 : List Loc), t.heap = H1 → s.vm.Alike t.vm → post r u → B u t → H.size ≤ H1.size → (∀ q : Nat, q < H.size → ¬ A1 q → H1[q]? = H[q]?) → va_S A0 H0 H1 locs1 → W p l e R s m args below meth c H1 locs1 (cells + mc) (slots + ms) Q (F0 m (pc + 3) ls (.float r :: rest))) : W p l e R s m args below meth c H locs cells slots Q (F0 m pc ls st0) := by
  intro T hT X
  rcases hr T hT X with ⟨v, st₀, t, T', L, h0, X', hL, e1, e2, ⟨⟨r, u, hv, hp, hb⟩, hF⟩, st⟩ | ⟨q, st₀, t, T', L, E, ce, h0, X', hL, e1, e2, ⟨u, hp, hb, hF⟩, hce, hcv, hcl, st⟩
  · cases hv
    obtain ⟨k1, k2, k3⟩ := vx_keep h0 e1 hS hA hf hL hF
    obtain ⟨t2, a1, b1⟩ := kk r u t T'.heap (locs ++ L) e1.symm (by rw [← e2]; exact X'.warmed.alike) hp hb k1 k2 k3 T' rfl X'
    exact ⟨t2, st t2 a1, b1⟩
  · obtain ⟨k1, k2, k3⟩ := vx_keep h0 e1 hS hAX hf hL hF
    obtain ⟨t2, a1, b1⟩ := kx E ce q u t T'.heap (locs ++ L) e1.symm (by rw [← e2]; exact X'.warmed.alike) hp hb k1 k2 k3 (by rw [e1]; exact hce) hcv hcl T' rfl X'
    exact ⟨t2, st.trans a1, b1⟩
theorem vx_calld {S SX : Type} {post : UInt64 → S → Prop} {px : SX → Prop} {B : S → State → Prop} {BX : String → SX → State → Prop} {AX : Nat → Prop} (hr : vx_Run p l e R s m args below meth c H locs cells slots mc ms (F0 m pc ls st0) rest (va_Qd post B A1 a) (vx_X px BX AX) free) (hS : va_S A0 H0 H locs) (hA : ∀ q, q < H.size → A1 q → A0 q) (hf : ∀ q, free q → A0 q) (hAX : ∀ q, q < H.size → AX q → A0 q)
    (kx : ∀ (E : String) (ce : Cell) (q9 : Addr) (u : SX) (t : State) (H1 : Heap) (locs1 : List Loc), t.heap = H1 → s.vm.Alike t.vm → px u → BX E u t → H.size ≤ H1.size → (∀ q : Nat, q < H.size → ¬ AX q → H1[q]? = H[q]?) → va_S A0 H0 H1 locs1 → H1[q9]? = some ce → ce.vm = .none → s.vm.findClass E = some ce.cls → vx_W p l e R s m args below meth c H1 locs1 (cells + mc) (slots + ms) Q (F0 m pc ls rest) q9)
    (kk : ∀ (r : UInt64) (u : S) (t : State) (H1 : Heap) (locs1 : List Loc), t.heap = H1 → s.vm.Alike t.vm → post r u → B u t → H.size ≤ H1.size → (∀ q : Nat, q < H.size → ¬ A1 q → H1[q]? = H[q]?) → va_S A0 H0 H1 locs1 → W p l e R s m args below meth c H1 locs1 (cells + mc) (slots + ms) Q (F0 m (pc + 3) ls (.double r :: rest))) : W p l e R s m args below meth c H locs cells slots Q (F0 m pc ls st0) := by
  intro T hT X
  rcases hr T hT X with ⟨v, st₀, t, T', L, h0, X', hL, e1, e2, ⟨⟨r, u, hv, hp, hb⟩, hF⟩, st⟩ | ⟨q, st₀, t, T', L, E, ce, h0, X', hL, e1, e2, ⟨u, hp, hb, hF⟩, hce, hcv, hcl, st⟩
  · cases hv
    obtain ⟨k1, k2, k3⟩ := vx_keep h0 e1 hS hA hf hL hF
    obtain ⟨t2, a1, b1⟩ := kk r u t T'.heap (locs ++ L) e1.symm (by rw [← e2]; exact X'.warmed.alike) hp hb k1 k2 k3 T' rfl X'
    exact ⟨t2, st t2 a1, b1⟩
  · obtain ⟨k1, k2, k3⟩ := vx_keep h0 e1 hS hAX hf hL hF
    obtain ⟨t2, a1, b1⟩ := kx E ce q u t T'.heap (locs ++ L) e1.symm (by rw [← e2]; exact X'.warmed.alike) hp hb k1 k2 k3 (by rw [e1]; exact hce) hcv hcl T' rfl X'
    exact ⟨t2, st.trans a1, b1⟩
theorem vx_callv {S SX : Type} {post : S → Prop} {px : SX → Prop} {B : S → State → Prop} {BX : String → SX → State → Prop} {AX : Nat → Prop} (hr : vx_Run p l e R s m args below meth c H locs cells slots mc ms (F0 m pc ls st0) rest (va_Qv post B A1 a) (vx_X px BX AX) free) (hS : va_S A0 H0 H locs) (hA : ∀ q, q < H.size → A1 q → A0 q) (hf : ∀ q, free q → A0 q) (hAX : ∀ q, q < H.size → AX q → A0 q)
    (kx : ∀ (E : String) (ce : Cell) (q9 : Addr) (u : SX) (t : State) (H1 : Heap) (locs1 : List Loc), t.heap = H1 → s.vm.Alike t.vm → px u → BX E u t → H.size ≤ H1.size → (∀ q : Nat, q < H.size → ¬ AX q → H1[q]? = H[q]?) → va_S A0 H0 H1 locs1 → H1[q9]? = some ce → ce.vm = .none → s.vm.findClass E = some ce.cls → vx_W p l e R s m args below meth c H1 locs1 (cells + mc) (slots + ms) Q (F0 m pc ls rest) q9)
    (kk : ∀ (u : S) (t : State) (H1 : Heap) (locs1 : List Loc), t.heap = H1 → s.vm.Alike t.vm → post u → B u t → H.size ≤ H1.size → (∀ q : Nat, q < H.size → ¬ A1 q → H1[q]? = H[q]?) → va_S A0 H0 H1 locs1 → W p l e R s m args below meth c H1 locs1 (cells + mc) (slots + ms) Q (F0 m (pc + 3) ls (rest))) : W p l e R s m args below meth c H locs cells slots Q (F0 m pc ls st0) := by
  intro T hT X
  rcases hr T hT X with ⟨v, st₀, t, T', L, h0, X', hL, e1, e2, ⟨⟨u, hv, hp, hb⟩, hF⟩, st⟩ | ⟨q, st₀, t, T', L, E, ce, h0, X', hL, e1, e2, ⟨u, hp, hb, hF⟩, hce, hcv, hcl, st⟩
  · cases hv
    obtain ⟨k1, k2, k3⟩ := vx_keep h0 e1 hS hA hf hL hF
    obtain ⟨t2, a1, b1⟩ := kk u t T'.heap (locs ++ L) e1.symm (by rw [← e2]; exact X'.warmed.alike) hp hb k1 k2 k3 T' rfl X'
    exact ⟨t2, st t2 a1, b1⟩
  · obtain ⟨k1, k2, k3⟩ := vx_keep h0 e1 hS hAX hf hL hF
    obtain ⟨t2, a1, b1⟩ := kx E ce q u t T'.heap (locs ++ L) e1.symm (by rw [← e2]; exact X'.warmed.alike) hp hb k1 k2 k3 (by rw [e1]; exact hce) hcv hcl T' rfl X'
    exact ⟨t2, st.trans a1, b1⟩
/-- caught by the row x of this method's table; the rows ahead don't take it -/
theorem vx_catch {own name : String} {E : String} {ce : Cell} {q : Addr} (hown : s.vm.findClass own = some m.cls) (pre : List ExceptionTableEntry) (x : ExceptionTableEntry) (suf : List ExceptionTableEntry) (hsplit : c.exceptionTable.toList = pre ++ x :: suf)
    (hpass : ∀ z ∈ pre, covers z pc = false ∨ (z.catchType ≠ 0 ∧ ∃ nm : String, (Cond.classLink own z.catchType nm).before args s = true ∧ va_Nc E nm s)) (hx : covers x pc = true) (h0 : x.catchType ≠ 0)
    (hlink : (Cond.classLink own x.catchType name).before args s = true) (hcast : (Cond.castable E name).before args s = true) (hcell : H[q]? = some ce) (hv : ce.vm = .none) (hcl : s.vm.findClass E = some ce.cls)
    (kk : W p l e R s m args below meth c H locs cells slots Q (F0 m x.handlerPc ls [.ref q])) : vx_W p l e R s m args below meth c H locs cells slots Q (F0 m pc ls rest) q := by
  intro T hT X
  have hpl : e.platform.magicAccessors = ({} : Platform).magicAccessors := by rw [X.admits.platform]
  obtain ⟨c3, c4, hc3, hc4, hasg⟩ := Cond.castable_spec hcast
  cases Option.some.inj (hc3.symm.trans hcl)
  obtain ⟨c5, hc5, hcl5⟩ := Cond.classLink_spec hown hlink e.platform hpl
  cases Option.some.inj (hc4.symm.trans hc5)
  obtain ⟨vm', X', st⟩ := X.thenCaughtThrough q (g := F0 m pc ls rest) rfl (Steps.refl _) (by rw [hT]; exact hcell) (by rw [hv]; rfl) (by obtain ⟨k9, h9, -⟩ := Vm.findClass_spec hcl; exact ⟨k9, h9⟩) pre x suf hsplit
    (fun z hz => by
      rcases hpass z hz with h | ⟨hz0, nm, hl1, hn1⟩
      · exact Or.inl h
      · obtain ⟨c6, hc6, hcl6⟩ := Cond.classLink_spec hown hl1 e.platform hpl
        obtain ⟨a8, b8, h1, h2, h3⟩ := hn1
        cases Option.some.inj (h1.symm.trans hcl)
        cases Option.some.inj (h2.symm.trans hc6)
        exact Or.inr ⟨hz0, _, hcl6, h3⟩) hx (Or.inr ⟨h0, c4, hcl5, hasg⟩)
  obtain ⟨t, a1, b1⟩ := kk (T.setVm vm') hT X'
  exact ⟨t, st.trans a1, b1⟩
end Rows
section Ends
variable {p : Program} {l : Launch} {e : Env} {R : Room} {s : State} {m : MethodId} {args : Array Value} {below : List Frame} {meth : Method} {c : Code} {H : Heap} {locs : List Loc} {cells slots : Nat} {Q : State → Prop}
variable {mc ms : Nat} {free : Addr → Prop} {A0 A1 : Nat → Prop} {H0 : Heap} {a : Array Value} {ls : Array Slot} {st0 rest : List Value}
variable {Qc : Array Value → State → Outcome → State → Prop} {XC : String → State → State → Prop}
/-- what a body that may throw owes at its end -/
def vx_MQ (below : List Frame) (Qc : Array Value → State → Outcome → State → Prop) (XC : String → State → State → Prop) (a : Array Value) (s : State) (mc ms : Nat) (free : Addr → Prop) : State → Prop := fun t =>
  ∃ o, t.status = .running ∧ Ended t below o ∧ vx_Q Qc XC mc ms free a s o t
theorem vx_ret {g : JFrame} {mc ms : Nat} (k : W p l e R s m args below meth c H locs cells slots (MQ below Qc args s mc ms free) g) : W p l e R s m args below meth c H locs cells slots (vx_MQ below Qc XC args s mc ms free) g := by
  intro T hT X
  obtain ⟨t, a1, o, b1, b2, b3, b4⟩ := k T hT X
  exact ⟨t, a1, o, b1, b2, Or.inl ⟨b3, b4⟩⟩
/-- not caught here: it goes on to the caller -/
theorem vx_widen {g : JFrame} {q : Addr} {k n : Nat} (h1 : cells ≤ k) (h2 : slots ≤ n) (kk : vx_W p l e R s m args below meth c H locs k n Q g q) : vx_W p l e R s m args below meth c H locs cells slots Q g q := fun T hT X => kk T hT (stand_widen X h1 h2)
theorem vx_out {pc : Nat} {E : String} {ce : Cell} {q : Addr} {mc ms : Nat} (hout : ∀ x ∈ c.exceptionTable.toList, covers x pc = false) (hlocks : meth.locks = false) (hcell : H[q]? = some ce) (hv : ce.vm = .none) (hcl : s.vm.findClass E = some ce.cls)
    (hx : ∀ t : State, t.heap = H → s.vm.Alike t.vm → XC E s t) (hf : ∀ z ∈ locs, free z.base) (hc : cells ≤ mc) (hs : slots ≤ ms) :
    vx_W p l e R s m args below meth c H locs cells slots (vx_MQ below Qc XC args s mc ms free) (F0 m pc ls rest) q := by
  intro T hT X
  obtain ⟨st1, hrun, hend, hW, hsm⟩ := X.leaveThrown q (g := F0 m pc ls rest) rfl rfl rfl hout hlocks
  have hcell9 : (T.setFrames (.throwing q :: below)).heap[q]? = some ce := by
    show T.heap[q]? = some ce
    rw [hT]; exact hcell
  exact ⟨_, st1, .threw q, hrun, hend, Or.inr ⟨q, rfl, E, ce, locs, hx _ hT hW.alike, hcell9, hv, hcl, hW, hsm.mono hc hs, hf⟩⟩
theorem vx_frame {U : State} {k n : Nat} (h : s.sameButNew ({ U with vm := s.vm } : State) locs k n) : s.heap.size ≤ U.heap.size ∧ ∀ q : Nat, q < s.heap.size → (∀ z ∈ locs, z.base ≠ q) → U.heap[q]? = s.heap[q]? := by
  obtain ⟨-, h2, -, -, -, h6⟩ := h
  refine ⟨h2, fun q hq hz => ?_⟩
  obtain ⟨c9, e1, e2, e3, e4⟩ := h6 q _ (Array.getElem?_eq_getElem hq)
  have hs : c9.slots = (s.heap[q]).slots := Array.ext_getElem? fun i => e4 i fun hm => hz _ hm rfl
  have h9 : c9 = s.heap[q] := by
    rw [hs] at e2
    exact e2
  have e5 : U.heap[q]? = some c9 := e1
  rw [e5, h9, Array.getElem?_eq_getElem hq]
/-- the words of a throw but the four that speak of the heap -/
def vx_no (w : Cond) : Bool := decide (w ≠ .isRef (.static Bundle.tN "UNASSIGNED_STACK" Bundle.steD)) && decide (w ≠ .isRef (.static Bundle.tN "SUPPRESSED_SENTINEL" Bundle.listD)) && decide (w ≠ .laysStatic Bundle.tN "UNASSIGNED_STACK" Bundle.steD) && decide (w ≠ .laysStatic Bundle.tN "SUPPRESSED_SENTINEL" Bundle.listD)
def vx_at0 (own : String) (ic : Nat) (X : String) (names : List String) : List Cond := (Bundle.ownAtoms0 own ic X names).filter vx_no
def vx_atS (own : String) (ic : Nat) (X : String) (names : List String) : List Cond := (Bundle.ownAtoms own ic X names).filter vx_no
/-- a word that the tables alone decide, or a good one -/
def vx_ot (w : Cond) : Bool := w.onTables || goodWord w
theorem vx_ot_at {args a' : Array Value} {s U : State} {w : Cond} (hW : s.WarmedH U.vm) (hvm : s.vm = U.vm) (hg : vx_ot w = true) (h : w.before args s = true) : w.before a' U = true := by
  simp only [vx_ot, Bool.or_eq_true] at hg
  rcases hg with hg | hg
  · exact va_tabs hg hvm h
  · exact word_at hW (good_of_word hg) h
/-- a list's words: the good ones out of the method's own list, the others by premises of their own -/
theorem vx_hat {args : Array Value} {s : State} {L B : List Cond} (h1 : ∀ w ∈ L.filter goodWord, w.before args s = true) (h2 : ∀ w ∈ L.filter (fun w => !goodWord w), w ∈ B) (h3 : ∀ w ∈ B, w.before args s = true) : ∀ w ∈ L, w.before args s = true := by
  intro w hw
  by_cases g : goodWord w = true
  · exact h1 w (List.mem_filter.mpr ⟨hw, g⟩)
  · refine h3 w (h2 w (List.mem_filter.mpr ⟨hw, ?_⟩))
    show (!goodWord w) = true
    cases hgw : goodWord w
    · rfl
    · exact absurd hgw g
theorem vx_c {args : Array Value} {s : State} {w : Cond} {B : List Cond} (h : w.before args s = true) (t : ∀ w ∈ B, w.before args s = true) : ∀ w' ∈ w :: B, w'.before args s = true := fun w' h' => (List.mem_cons.mp h').elim (fun e => by rw [e]; exact h) (t w')
theorem vx_n {args : Array Value} {s : State} : ∀ w ∈ ([] : List Cond), w.before args s = true := fun _ h => nomatch h
theorem vx_own {args : Array Value} {s : State} {L : List Cond} (h1 : ∀ w ∈ L.filter vx_no, w.before args s = true)
    (hU : (Cond.isRef (.static Bundle.tN "UNASSIGNED_STACK" Bundle.steD)).before args s = true) (hN : (Cond.isRef (.static Bundle.tN "SUPPRESSED_SENTINEL" Bundle.listD)).before args s = true)
    (lU : (Cond.laysStatic Bundle.tN "UNASSIGNED_STACK" Bundle.steD).before args s = true) (lN : (Cond.laysStatic Bundle.tN "SUPPRESSED_SENTINEL" Bundle.listD).before args s = true) : ∀ w ∈ L, w.before args s = true := by
  intro w hw
  by_cases e1 : w = .isRef (.static Bundle.tN "UNASSIGNED_STACK" Bundle.steD)
  · rw [e1]; exact hU
  · by_cases e2 : w = .isRef (.static Bundle.tN "SUPPRESSED_SENTINEL" Bundle.listD)
    · rw [e2]; exact hN
    · by_cases e3 : w = .laysStatic Bundle.tN "UNASSIGNED_STACK" Bundle.steD
      · rw [e3]; exact lU
      · by_cases e4 : w = .laysStatic Bundle.tN "SUPPRESSED_SENTINEL" Bundle.listD
        · rw [e4]; exact lN
        · exact h1 w (List.mem_filter.mpr ⟨hw, by unfold vx_no; rw [decide_eq_true e1, decide_eq_true e2, decide_eq_true e3, decide_eq_true e4]; rfl⟩)
/-- where a static field lies, its class's statics cell in H -/
def vx_L (C n d : String) (A : Nat → Prop) (U : State) (H : Heap) : Prop := ∃ (c : ClassId) (k : Class) (i : Nat) (f : Field) (a : Nat) (cell : Cell), U.vm.findClass C = some c ∧ U.fieldFound? C n d = some (c, k, i, f) ∧ f.isStatic = true ∧ k.statics = some a ∧ H[a]? = some cell ∧ cell.vm.isStatics = true ∧ cell.cls = c ∧ f.slot < cell.slots.size ∧ k.staticTypes[f.slot]? = some f.type ∧ ¬ A a
theorem vx_L.moved {C n d : String} {A : Nat → Prop} {u U : State} {H : Heap} (hvm : u.vm.Alike U.vm) (h : vx_L C n d A u H) : vx_L C n d A U H := by
  obtain ⟨c, k, i, f, a, cell, h1, h2, h3, h4, h5, h6, h7, h8, h9, h10⟩ := h
  obtain ⟨k', hi', he⟩ := State.fieldFound?_setVm hvm h2
  exact ⟨c, k', i, f, a, cell, by rw [hvm.findClass]; exact h1, hi', h3, by rw [he]; exact h4, h5, h6, h7, h8, by rw [he]; exact h9, h10⟩
theorem vx_L.kept {C n d : String} {A : Nat → Prop} {U : State} {H H1 : Heap} (h : vx_L C n d A U H) (hq : ∀ a : Nat, a < H.size → ¬ A a → H1[a]? = H[a]?) : vx_L C n d A U H1 := by
  obtain ⟨c, k, i, f, a, cell, h1, h2, h3, h4, h5, h6, h7, h8, h9, h10⟩ := h
  exact ⟨c, k, i, f, a, cell, h1, h2, h3, h4, by rw [hq a (Array.getElem?_eq_some_iff.mp h5).1 h10]; exact h5, h6, h7, h8, h9, h10⟩
theorem vx_L.narrow {C n d : String} {A B : Nat → Prop} {U : State} {H : Heap} (h : vx_L C n d A U H) (hAB : ∀ q, B q → A q) : vx_L C n d B U H := by
  obtain ⟨c, k, i, f, a, cell, h1, h2, h3, h4, h5, h6, h7, h8, h9, h10⟩ := h
  exact ⟨c, k, i, f, a, cell, h1, h2, h3, h4, h5, h6, h7, h8, h9, fun z => h10 (hAB _ z)⟩
theorem vx_L.word {C n d : String} {A : Nat → Prop} {s : State} {args : Array Value} (h : vx_L C n d A s s.heap) : (Cond.laysStatic C n d).before args s = true := by
  obtain ⟨c, k, i, f, a, cell, h1, h2, h3, h4, h5, h6, h7, h8, h9, -⟩ := h
  show (Cond.laysStatic C n d).holds args s none s [] = true
  exact Cond.laysStatic_of h1 h2 h3 h4 h5 h6 h7 h8 h9
/-- .. and what it holds: null or some reference -/
def vx_Zq (C n d : String) (A : Nat → Prop) (U : State) (H : Heap) : Prop := va_Zq C n d A U H ∧ vx_L C n d A U H
theorem vx_Zq.moved {C n d : String} {A : Nat → Prop} {u U : State} {H : Heap} (hvm : u.vm.Alike U.vm) (h : vx_Zq C n d A u H) : vx_Zq C n d A U H := ⟨va_Zq.moved hvm h.1, vx_L.moved hvm h.2⟩
theorem vx_Zq.kept {C n d : String} {A : Nat → Prop} {U : State} {H H1 : Heap} (h : vx_Zq C n d A U H) (hq : ∀ a : Nat, a < H.size → ¬ A a → H1[a]? = H[a]?) : vx_Zq C n d A U H1 := ⟨va_Zq.kept h.1 hq, vx_L.kept h.2 hq⟩
theorem vx_Zq.narrow {C n d : String} {A B : Nat → Prop} {U : State} {H : Heap} (h : vx_Zq C n d A U H) (hAB : ∀ q, B q → A q) : vx_Zq C n d B U H := ⟨va_Zq.narrow h.1 hAB, vx_L.narrow h.2 hAB⟩
theorem vx_Zqof {args : Array Value} {s : State} {C n d : String} {A : Nat → Prop} (hl : (Cond.laysStatic C n d).before args s = true) (hini : (Cond.initialized C).before args s = true) (h : (Cond.isRef (.static C n d)).before args s = true) (hA : ∀ a : Nat, a < s.heap.size → ¬ A a) : vx_Zq C n d A s s.heap := by
  refine ⟨va_Zqof hl hini h hA, ?_⟩
  obtain ⟨c, k, i, f, a, cell, h1, h2, h3, h4, h5, h6, h7, h8, h9⟩ := Cond.laysStatic_spec hl
  exact ⟨c, k, i, f, a, cell, h1, h2, h3, h4, h5, h6, h7, h8, h9, hA a (Array.getElem?_eq_some_iff.mp h5).1⟩
theorem vx_isRef {C n d : String} {v : Value} {A : Nat → Prop} {s : State} {args : Array Value} (h : va_Z C n d v A s s.heap) (hv : v.isRef = true) : (Cond.isRef (.static C n d)).before args s = true := by
  obtain ⟨cf, kf, fi, f, a, cell, h1, h2, h3, h4, h5, h6, h7, -⟩ := h
  have he : (Term.static C n d).eval args s none [] s = some v := by
    simp [Term.eval, State.fieldNamed?, h1, h2, h4, h5, h6, h7]
  simp only [Cond.before, Cond.holds, Cond.value, he]
  cases v <;> simp_all [Value.isRef]
theorem vx_isRefq {C n d : String} {A : Nat → Prop} {s : State} {args : Array Value} (h : va_Zq C n d A s s.heap) : (Cond.isRef (.static C n d)).before args s = true := by
  rcases h with h | ⟨t, h⟩
  · exact vx_isRef h rfl
  · exact vx_isRef h rfl
/-- the same frame, seen from here: as if the method were called anew in this heap -/
theorem vx_rebase {T : State} (X : Stand p l e R s m args below meth c T locs cells slots) {R' : Room} (hf : R'.frames ≤ R.frames) (hl : R'.locals ≤ R.locals) (hc : cells + R'.cells ≤ R.cells) (hs : slots + R'.slots ≤ R.slots) :
    Stand p l e R' ((T.setVm s.vm).setFrames (.invoking m args :: below)) m args below meth c T [] 0 0 := by
  have htop : (T.setVm s.vm).topJava?.isSome := X.here.top
  have hF : ((T.setVm s.vm).setFrames (.invoking m args :: below)).frames = .invoking m args :: below := State.frames_setFrames _ (State.cur_lt_of_top htop)
  obtain ⟨g₀, hg0⟩ := Option.isSome_iff_exists.mp htop
  obtain ⟨r, hr⟩ := State.topJava?_eq_some.mp hg0
  have hl9 : e.platform.stackLimits (T.setVm s.vm).me = e.platform.stackLimits s.me := X.limits
  have hb9 : (T.setVm s.vm).me.stackBytes = s.me.stackBytes := X.bytes
  refine ⟨X.admits, X.cas, X.clock, hF, ?_, X.hears, X.method, X.code, X.here, X.tail, X.warmed, ?_, ?_, ?_⟩
  · have h := X.room
    have hU : ((T.setVm s.vm).setFrames (.invoking m args :: below)).localsInUse = s.localsInUse := by
      rw [State.localsInUse_invoking hF (meth := meth) (c := c) X.method X.code, State.localsInUse_invoking X.frames X.method X.code]
    simp only [State.hasRoom, Bool.and_eq_true, decide_eq_true_eq] at h ⊢
    obtain ⟨⟨⟨⟨h1, h2, h3, h4, h5, h6⟩, h7⟩, h8⟩, h9⟩ := h
    rw [X.frames, List.length_cons] at h2 h3
    have q1 := X.heapSize
    have q2 := X.used
    simp only [hF, hU, List.length_cons, State.stackLimits_setFrames, State.stackBytes_setFrames, hl9, hb9]
    refine ⟨⟨⟨⟨by omega, by omega, by omega, by omega, by omega, h6⟩, ?_⟩, ?_⟩, X.book⟩
    · show T.heap.size + R'.cells ≤ e.platform.maxCells
      omega
    · show T.slotsUsed + R'.slots ≤ e.platform.maxSlots
      omega
  · rw [State.stackLimits_setFrames]; rfl
  · rw [State.stackBytes_setFrames]; rfl
  · refine ⟨?_, Nat.le_refl _, Nat.le_refl _, ?_, ?_, fun a c9 h9 => ⟨c9, h9, rfl, rfl, fun _ _ => rfl⟩⟩
    · obtain ⟨t, ht, -⟩ := State.frames_cons hr
      show T.setVm s.vm = { ((T.setVm s.vm).setFrames (.invoking m args :: below)).setFrames (T.setVm s.vm).frames with heap := T.heap, slotsUsed := T.slotsUsed }
      rw [State.setFrames_setFrames, State.setFrames_self ht]
      rfl
    · show T.slotsUsed = T.slotsUsed + ((T.heap.toList.drop T.heap.size).map (·.slots.size)).sum
      rw [List.drop_eq_nil_of_le (Nat.le_of_eq Array.length_toList)]
      rfl
    · show ((T.heap.toList.drop T.heap.size).map (·.slots.size)).sum ≤ 0
      rw [List.drop_eq_nil_of_le (Nat.le_of_eq Array.length_toList)]
      exact Nat.le_refl _
/-- 'throw new E()': new; dup; invokespecial; athrow -/
theorem vx_throw0 {cc : ByteArray} {pc : Nat} (hexec : p.tables.exec = Jvm.exec) (hb : c.code = cc) (hl : l.stackTraces = false) {own cls : String} {names : List String} {ik ic mc ms : Nat} {A : Nat → Prop}
    (hown : s.vm.findClass own = some m.cls) (hcls : Bundle.fit cls = true) (hnames : ∀ n ∈ names, Bundle.fit n = true)
    (hk : (Cond.classLink own ik cls).before args s = true) (hini : (Cond.initialized cls).before args s = true) (hat : ∀ w ∈ vx_at0 own ic cls names, w.before args s = true)
    (hgood : ∀ w ∈ Cond.classLink own ik cls :: Cond.initialized cls :: vx_at0 own ic cls names, vx_ot w = true)
    (hU : vx_Zq Bundle.tN "UNASSIGNED_STACK" Bundle.steD A s s.heap) (hN : vx_Zq Bundle.tN "SUPPRESSED_SENTINEL" Bundle.listD A s s.heap) (hS : va_S A s.heap H locs) (hsize : ls.size = c.maxLocals)
    (d0 : decode cc pc = .ok (.new ik, 3)) (d3 : decode cc (pc + 3) = .ok (.dup, 1)) (d4 : decode cc (pc + 4) = .ok (.invokespecial ic, 3)) (d7 : decode cc (pc + 7) = .ok (.athrow, 1))
    (hout : ∀ x ∈ c.exceptionTable.toList, covers x (pc + 7) = false)
    (hRframes : names.length + 3 < R.frames) (hRlocals : (rest.map fun v => v.category).sum + (13 * (names.length + 1) + 42) ≤ R.locals) (hRcells : cells + 1 ≤ R.cells) (hRslots : slots + 6 ≤ R.slots) (hlocks : meth.locks = false)
    (hx : ∀ t : State, s.vm.Alike t.vm → H.size ≤ t.heap.size → (∀ q : Nat, q < H.size → t.heap[q]? = H[q]?) → XC cls s t)
    (hf : ∀ z ∈ locs, free z.base) (hc : cells + 1 ≤ mc) (hs : slots + 6 ≤ ms) :
    W p l e R s m args below meth c H locs cells slots (vx_MQ below Qc XC args s mc ms free) (F0 m pc ls rest) := by
  intro T hT X
  have htr : e.platform.stackTraces = false := (show e.platform.stackTraces = l.stackTraces by rw [X.admits.platform]).trans hl
  have Y := vx_rebase X (R' := { frames := R.frames, locals := R.locals, cells := 1, slots := 6 }) (Nat.le_refl _) (Nat.le_refl _) hRcells hRslots
  obtain ⟨s', hA⟩ : ∃ z, z = (T.setVm s.vm).setFrames (.invoking m args :: below) := ⟨_, rfl⟩
  rw [← hA] at Y
  have hvm : s'.vm = s.vm := by rw [hA]; rfl
  have hhp : s'.heap = H := by rw [hA]; exact hT
  have hW0 : s.WarmedH s'.vm := by rw [hvm]; exact State.WarmedH.refl s
  have hat' : ∀ w ∈ vx_at0 own ic cls names, w.before args s' = true := fun w hw => vx_ot_at hW0 hvm.symm (hgood w (List.mem_cons_of_mem _ (List.mem_cons_of_mem _ hw))) (hat w hw)
  have hk' : (Cond.classLink own ik cls).before args s' = true := vx_ot_at hW0 hvm.symm (hgood _ List.mem_cons_self) hk
  have hini' : (Cond.initialized cls).before args s' = true := vx_ot_at hW0 hvm.symm (hgood _ (List.mem_cons_of_mem _ List.mem_cons_self)) hini
  have hU' : vx_Zq Bundle.tN "UNASSIGNED_STACK" Bundle.steD A s' s'.heap := by rw [hhp]; exact vx_Zq.moved hW0.alike (hU.kept hS.2.1)
  have hN' : vx_Zq Bundle.tN "SUPPRESSED_SENTINEL" Bundle.listD A s' s'.heap := by rw [hhp]; exact vx_Zq.moved hW0.alike (hN.kept hS.2.1)
  have h : ∀ w ∈ Bundle.ownAtoms0 own ic cls names, w.before args s' = true := vx_own hat' (vx_isRefq hU'.1) (vx_isRefq hN'.1) hU'.2.word hN'.2.word
  have hown' : s'.vm.findClass own = some m.cls := by rw [hvm]; exact hown
  have hins : (Cond.instantiable cls 6).before args s' = true := h _ (by simp [Bundle.ownAtoms0])
  obtain ⟨vm₁, cX, kX, hfX, hkX, -, -, X₁, st1⟩ := Y.newCold hexec (own := own) (C := cls) (index := ik) (n := 6) hown' hk' hins hini'
    (g := F0 m pc ls rest) rfl (by rw [hb]; exact d0) (Nat.le_refl _) (Nat.le_refl _)
  generalize hT1 : (T.setVm vm₁).pushCell { cls := cX, slots := kX.instanceTypes.map defaultValue, vm := .none } = T1 at X₁ st1
  have hcat : (Value.ref T.heap.size).category = 1 := rfl
  have hcellA : T1.heap[T.heap.size]? = some (freshCell cX kX) := by rw [← hT1]; exact State.heap_pushCell_size _ _
  have d3' : decode c.code (pc + 3) = .ok (.dup, 1) := by rw [hb]; exact d3
  obtain ⟨U, hsteps, hrun, hend, hW, hsame, ce, hce, hO⟩ := X₁.ctorThrow0 hexec htr (own := own) (cls := cls) (names := names) (ic := ic) hown' hcls hnames h (fun x hx => nomatch hx) hfX hkX hcellA (by rw [hhp, hT]; exact Nat.le_refl _)
    (g := { method := m, pc := pc + 4, locals := ls, stack := .ref T.heap.size :: .ref T.heap.size :: rest, locked := none }) rfl hsize rfl rfl (rest := rest) rfl
    (by rw [hb]; exact d4) (by rw [hb]; exact d7) hout hRframes (by simp only [List.map_cons, List.sum_cons, hcat]; omega) hlocks
  obtain ⟨f1, f2⟩ := vx_frame hsame
  rw [hhp] at f1 f2
  have hWs : s.WarmedH U.vm := State.WarmedH.trans hW0 hW
  have hcl : s.vm.findClass cls = some ce.cls := by
    have h9 := hO.cls
    rw [hvm] at h9
    exact h9
  have hall : s.sameButNew ({ U with vm := s.vm } : State) locs mc ms := by
    subst hA
    obtain ⟨e1, e2⟩ := hsame
    rw [State.setFrames_setFrames] at e1
    have h2 : (T.setVm s.vm).sameButNew ({ U with vm := s.vm } : State) [] (0 + 1) (0 + 6) := ⟨e1, e2⟩
    have h3 := X.same.trans h2
    rw [List.append_nil] at h3
    exact h3.mono hc hs
  refine ⟨U, ?_, .threw T.heap.size, hrun, hend, Or.inr ⟨T.heap.size, rfl, cls, ce, locs, hx U hWs.alike f1 (fun q hq => f2 q hq (fun z hz => nomatch hz)), hce, hO.vm, hcl, hWs, hall, hf⟩⟩
  refine st1 _ ?_
  show Steps p.tables e below (T1.setTop { method := m, pc := pc + 3, locals := ls, stack := .ref T.heap.size :: rest, locked := none }) _
  jvm_step X₁.here [X₁.here.top, hexec, d3', Value.category]
  exact hsteps
/-- 'throw new E("text")': new; dup; ldc; invokespecial; athrow -/
theorem vx_throwS {cc : ByteArray} {pc : Nat} (hexec : p.tables.exec = Jvm.exec) (hb : c.code = cc) (hl : l.stackTraces = false) {own cls text : String} {names : List String} {ik is ic mc ms sa : Nat} {A : Nat → Prop}
    (hown : s.vm.findClass own = some m.cls) (hcls : Bundle.fit cls = true) (hnames : ∀ n ∈ names, Bundle.fit n = true)
    (hk : (Cond.classLink own ik cls).before args s = true) (hini : (Cond.initialized cls).before args s = true) (hstr : vk_R own is text sa s) (hat : ∀ w ∈ vx_atS own ic cls names, w.before args s = true)
    (hgood : ∀ w ∈ Cond.classLink own ik cls :: Cond.initialized cls :: vx_atS own ic cls names, vx_ot w = true)
    (hU : vx_Zq Bundle.tN "UNASSIGNED_STACK" Bundle.steD A s s.heap) (hN : vx_Zq Bundle.tN "SUPPRESSED_SENTINEL" Bundle.listD A s s.heap) (hS : va_S A s.heap H locs) (hsize : ls.size = c.maxLocals)
    (d0 : decode cc pc = .ok (.new ik, 3)) (d3 : decode cc (pc + 3) = .ok (.dup, 1)) (d4 : decode cc (pc + 4) = .ok (.ldc is, 2)) (d6 : decode cc (pc + 6) = .ok (.invokespecial ic, 3)) (d9 : decode cc (pc + 9) = .ok (.athrow, 1))
    (hout : ∀ x ∈ c.exceptionTable.toList, covers x (pc + 9) = false)
    (hRframes : names.length + 3 < R.frames) (hRlocals : (rest.map fun v => v.category).sum + (13 * (names.length + 1) + 43) ≤ R.locals) (hRcells : cells + 1 ≤ R.cells) (hRslots : slots + 6 ≤ R.slots) (hlocks : meth.locks = false)
    (hx : ∀ t : State, s.vm.Alike t.vm → H.size ≤ t.heap.size → (∀ q : Nat, q < H.size → t.heap[q]? = H[q]?) → XC cls s t)
    (hf : ∀ z ∈ locs, free z.base) (hc : cells + 1 ≤ mc) (hs : slots + 6 ≤ ms) :
    W p l e R s m args below meth c H locs cells slots (vx_MQ below Qc XC args s mc ms free) (F0 m pc ls rest) := by
  intro T hT X
  have htr : e.platform.stackTraces = false := (show e.platform.stackTraces = l.stackTraces by rw [X.admits.platform]).trans hl
  have Y := vx_rebase X (R' := { frames := R.frames, locals := R.locals, cells := 1, slots := 6 }) (Nat.le_refl _) (Nat.le_refl _) hRcells hRslots
  obtain ⟨s', hA⟩ : ∃ z, z = (T.setVm s.vm).setFrames (.invoking m args :: below) := ⟨_, rfl⟩
  rw [← hA] at Y
  have hvm : s'.vm = s.vm := by rw [hA]; rfl
  have hhp : s'.heap = H := by rw [hA]; exact hT
  have hW0 : s.WarmedH s'.vm := by rw [hvm]; exact State.WarmedH.refl s
  have hat' : ∀ w ∈ vx_atS own ic cls names, w.before args s' = true := fun w hw => vx_ot_at hW0 hvm.symm (hgood w (List.mem_cons_of_mem _ (List.mem_cons_of_mem _ hw))) (hat w hw)
  have hk' : (Cond.classLink own ik cls).before args s' = true := vx_ot_at hW0 hvm.symm (hgood _ List.mem_cons_self) hk
  have hini' : (Cond.initialized cls).before args s' = true := vx_ot_at hW0 hvm.symm (hgood _ (List.mem_cons_of_mem _ List.mem_cons_self)) hini
  have hU' : vx_Zq Bundle.tN "UNASSIGNED_STACK" Bundle.steD A s' s'.heap := by rw [hhp]; exact vx_Zq.moved hW0.alike (hU.kept hS.2.1)
  have hN' : vx_Zq Bundle.tN "SUPPRESSED_SENTINEL" Bundle.listD A s' s'.heap := by rw [hhp]; exact vx_Zq.moved hW0.alike (hN.kept hS.2.1)
  have h : ∀ w ∈ Bundle.ownAtoms own ic cls names, w.before args s' = true := vx_own hat' (vx_isRefq hU'.1) (vx_isRefq hN'.1) hU'.2.word hN'.2.word
  have hown' : s'.vm.findClass own = some m.cls := by rw [hvm]; exact hown
  have hins : (Cond.instantiable cls 6).before args s' = true := h _ (by simp [Bundle.ownAtoms])
  obtain ⟨vm₁, cX, kX, hfX, hkX, -, -, X₁, st1⟩ := Y.newCold hexec (own := own) (C := cls) (index := ik) (n := 6) hown' hk' hins hini'
    (g := F0 m pc ls rest) rfl (by rw [hb]; exact d0) (Nat.le_refl _) (Nat.le_refl _)
  generalize hT1 : (T.setVm vm₁).pushCell { cls := cX, slots := kX.instanceTypes.map defaultValue, vm := .none } = T1 at X₁ st1
  have hcat : (Value.ref T.heap.size).category = 1 := rfl
  have hcellA : T1.heap[T.heap.size]? = some (freshCell cX kX) := by rw [← hT1]; exact State.heap_pushCell_size _ _
  have d3' : decode c.code (pc + 3) = .ok (.dup, 1) := by rw [hb]; exact d3
  have d4' : decode c.code (pc + 4) = .ok (.ldc is, 2) := by rw [hb]; exact d4
  have hstr' : vk_R own is text sa s' := vk_R.warm hW0 hstr
  obtain ⟨U, hsteps, hrun, hend, hW, hsame, ce, hce, hO⟩ := X₁.ctorThrowS hexec htr (own := own) (cls := cls) (names := names) (ic := ic) hown' hcls hnames h (fun x hx => nomatch hx) hfX hkX hcellA (by rw [hhp, hT]; exact Nat.le_refl _) (msg := .ref sa) rfl
    (g := { method := m, pc := pc + 6, locals := ls, stack := .ref sa :: .ref T.heap.size :: .ref T.heap.size :: rest, locked := none }) rfl hsize rfl rfl (rest := rest) rfl
    (by rw [hb]; exact d6) (by rw [hb]; exact d9) hout hRframes (by simp only [List.map_cons, List.sum_cons, hcat]; omega) hlocks
  obtain ⟨f1, f2⟩ := vx_frame hsame
  rw [hhp] at f1 f2
  have hWs : s.WarmedH U.vm := State.WarmedH.trans hW0 hW
  have hcl : s.vm.findClass cls = some ce.cls := by
    have h9 := hO.cls
    rw [hvm] at h9
    exact h9
  have hall : s.sameButNew ({ U with vm := s.vm } : State) locs mc ms := by
    subst hA
    obtain ⟨e1, e2⟩ := hsame
    rw [State.setFrames_setFrames] at e1
    have h2 : (T.setVm s.vm).sameButNew ({ U with vm := s.vm } : State) [] (0 + 1) (0 + 6) := ⟨e1, e2⟩
    have h3 := X.same.trans h2
    rw [List.append_nil] at h3
    exact h3.mono hc hs
  refine ⟨U, ?_, .threw T.heap.size, hrun, hend, Or.inr ⟨T.heap.size, rfl, cls, ce, locs, hx U hWs.alike f1 (fun q hq => f2 q hq (fun z hz => nomatch hz)), hce, hO.vm, hcl, hWs, hall, hf⟩⟩
  refine st1 _ ?_
  show Steps p.tables e below (T1.setTop { method := m, pc := pc + 3, locals := ls, stack := .ref T.heap.size :: rest, locked := none }) _
  jvm_step X₁.here [X₁.here.top, hexec, d3', Value.category]
  exact X₁.ldcString hexec (own := own) (text := text) (index := is) (a := sa) hown' hstr'.1 hstr'.2
    (g := { method := m, pc := pc + 4, locals := ls, stack := .ref T.heap.size :: .ref T.heap.size :: rest, locked := none }) rfl d4' _ hsteps
/-- 'throw new E("text")', the text by a wide index -/
theorem vx_throwSW {cc : ByteArray} {pc : Nat} (hexec : p.tables.exec = Jvm.exec) (hb : c.code = cc) (hl : l.stackTraces = false) {own cls text : String} {names : List String} {ik is ic mc ms sa : Nat} {A : Nat → Prop}
    (hown : s.vm.findClass own = some m.cls) (hcls : Bundle.fit cls = true) (hnames : ∀ n ∈ names, Bundle.fit n = true)
    (hk : (Cond.classLink own ik cls).before args s = true) (hini : (Cond.initialized cls).before args s = true) (hstr : vk_R own is text sa s) (hat : ∀ w ∈ vx_atS own ic cls names, w.before args s = true)
    (hgood : ∀ w ∈ Cond.classLink own ik cls :: Cond.initialized cls :: vx_atS own ic cls names, vx_ot w = true)
    (hU : vx_Zq Bundle.tN "UNASSIGNED_STACK" Bundle.steD A s s.heap) (hN : vx_Zq Bundle.tN "SUPPRESSED_SENTINEL" Bundle.listD A s s.heap) (hS : va_S A s.heap H locs) (hsize : ls.size = c.maxLocals)
    (d0 : decode cc pc = .ok (.new ik, 3)) (d3 : decode cc (pc + 3) = .ok (.dup, 1)) (d4 : decode cc (pc + 4) = .ok (.ldc_w is, 3)) (d7 : decode cc (pc + 7) = .ok (.invokespecial ic, 3)) (d10 : decode cc (pc + 10) = .ok (.athrow, 1))
    (hout : ∀ x ∈ c.exceptionTable.toList, covers x (pc + 10) = false)
    (hRframes : names.length + 3 < R.frames) (hRlocals : (rest.map fun v => v.category).sum + (13 * (names.length + 1) + 43) ≤ R.locals) (hRcells : cells + 1 ≤ R.cells) (hRslots : slots + 6 ≤ R.slots) (hlocks : meth.locks = false)
    (hx : ∀ t : State, s.vm.Alike t.vm → H.size ≤ t.heap.size → (∀ q : Nat, q < H.size → t.heap[q]? = H[q]?) → XC cls s t)
    (hf : ∀ z ∈ locs, free z.base) (hc : cells + 1 ≤ mc) (hs : slots + 6 ≤ ms) :
    W p l e R s m args below meth c H locs cells slots (vx_MQ below Qc XC args s mc ms free) (F0 m pc ls rest) := by
  intro T hT X
  have htr : e.platform.stackTraces = false := (show e.platform.stackTraces = l.stackTraces by rw [X.admits.platform]).trans hl
  have Y := vx_rebase X (R' := { frames := R.frames, locals := R.locals, cells := 1, slots := 6 }) (Nat.le_refl _) (Nat.le_refl _) hRcells hRslots
  obtain ⟨s', hA⟩ : ∃ z, z = (T.setVm s.vm).setFrames (.invoking m args :: below) := ⟨_, rfl⟩
  rw [← hA] at Y
  have hvm : s'.vm = s.vm := by rw [hA]; rfl
  have hhp : s'.heap = H := by rw [hA]; exact hT
  have hW0 : s.WarmedH s'.vm := by rw [hvm]; exact State.WarmedH.refl s
  have hat' : ∀ w ∈ vx_atS own ic cls names, w.before args s' = true := fun w hw => vx_ot_at hW0 hvm.symm (hgood w (List.mem_cons_of_mem _ (List.mem_cons_of_mem _ hw))) (hat w hw)
  have hk' : (Cond.classLink own ik cls).before args s' = true := vx_ot_at hW0 hvm.symm (hgood _ List.mem_cons_self) hk
  have hini' : (Cond.initialized cls).before args s' = true := vx_ot_at hW0 hvm.symm (hgood _ (List.mem_cons_of_mem _ List.mem_cons_self)) hini
  have hU' : vx_Zq Bundle.tN "UNASSIGNED_STACK" Bundle.steD A s' s'.heap := by rw [hhp]; exact vx_Zq.moved hW0.alike (hU.kept hS.2.1)
  have hN' : vx_Zq Bundle.tN "SUPPRESSED_SENTINEL" Bundle.listD A s' s'.heap := by rw [hhp]; exact vx_Zq.moved hW0.alike (hN.kept hS.2.1)
  have h : ∀ w ∈ Bundle.ownAtoms own ic cls names, w.before args s' = true := vx_own hat' (vx_isRefq hU'.1) (vx_isRefq hN'.1) hU'.2.word hN'.2.word
  have hown' : s'.vm.findClass own = some m.cls := by rw [hvm]; exact hown
  have hins : (Cond.instantiable cls 6).before args s' = true := h _ (by simp [Bundle.ownAtoms])
  obtain ⟨vm₁, cX, kX, hfX, hkX, -, -, X₁, st1⟩ := Y.newCold hexec (own := own) (C := cls) (index := ik) (n := 6) hown' hk' hins hini'
    (g := F0 m pc ls rest) rfl (by rw [hb]; exact d0) (Nat.le_refl _) (Nat.le_refl _)
  generalize hT1 : (T.setVm vm₁).pushCell { cls := cX, slots := kX.instanceTypes.map defaultValue, vm := .none } = T1 at X₁ st1
  have hcat : (Value.ref T.heap.size).category = 1 := rfl
  have hcellA : T1.heap[T.heap.size]? = some (freshCell cX kX) := by rw [← hT1]; exact State.heap_pushCell_size _ _
  have d3' : decode c.code (pc + 3) = .ok (.dup, 1) := by rw [hb]; exact d3
  have d4' : decode c.code (pc + 4) = .ok (.ldc_w is, 3) := by rw [hb]; exact d4
  have hstr' : vk_R own is text sa s' := vk_R.warm hW0 hstr
  obtain ⟨U, hsteps, hrun, hend, hW, hsame, ce, hce, hO⟩ := X₁.ctorThrowS hexec htr (own := own) (cls := cls) (names := names) (ic := ic) hown' hcls hnames h (fun x hx => nomatch hx) hfX hkX hcellA (by rw [hhp, hT]; exact Nat.le_refl _) (msg := .ref sa) rfl
    (g := { method := m, pc := pc + 7, locals := ls, stack := .ref sa :: .ref T.heap.size :: .ref T.heap.size :: rest, locked := none }) rfl hsize rfl rfl (rest := rest) rfl
    (by rw [hb]; exact d7) (by rw [hb]; exact d10) hout hRframes (by simp only [List.map_cons, List.sum_cons, hcat]; omega) hlocks
  obtain ⟨f1, f2⟩ := vx_frame hsame
  rw [hhp] at f1 f2
  have hWs : s.WarmedH U.vm := State.WarmedH.trans hW0 hW
  have hcl : s.vm.findClass cls = some ce.cls := by
    have h9 := hO.cls
    rw [hvm] at h9
    exact h9
  have hall : s.sameButNew ({ U with vm := s.vm } : State) locs mc ms := by
    subst hA
    obtain ⟨e1, e2⟩ := hsame
    rw [State.setFrames_setFrames] at e1
    have h2 : (T.setVm s.vm).sameButNew ({ U with vm := s.vm } : State) [] (0 + 1) (0 + 6) := ⟨e1, e2⟩
    have h3 := X.same.trans h2
    rw [List.append_nil] at h3
    exact h3.mono hc hs
  refine ⟨U, ?_, .threw T.heap.size, hrun, hend, Or.inr ⟨T.heap.size, rfl, cls, ce, locs, hx U hWs.alike f1 (fun q hq => f2 q hq (fun z hz => nomatch hz)), hce, hO.vm, hcl, hWs, hall, hf⟩⟩
  refine st1 _ ?_
  show Steps p.tables e below (T1.setTop { method := m, pc := pc + 3, locals := ls, stack := .ref T.heap.size :: rest, locked := none }) _
  jvm_step X₁.here [X₁.here.top, hexec, d3', Value.category]
  exact X₁.ldcStringW hexec (own := own) (text := text) (index := is) (a := sa) hown' hstr'.1 hstr'.2
    (g := { method := m, pc := pc + 4, locals := ls, stack := .ref T.heap.size :: .ref T.heap.size :: rest, locked := none }) rfl d4' _ hsteps
end Ends
section Bodies
variable {l : Launch}
theorem vx_ofW {y : MethodName} {ws ws' : List Cond} {rm : Room} {Pc : Array Value → State → Prop} {Qc : Array Value → State → Outcome → State → Prop} {XC : String → State → State → Prop} {mc ms : Nat} {free : Addr → Prop} {cc : ByteArray} {maxL : Nat} {ret : Option FieldType}
    (hy : plainName y.cls = true) (hw : ws = Cond.code y cc maxL ret :: ws')
    (body : ∀ p e s m args below meth c s₁, BodyLoose p l y (headSpec ws rm) cc maxL ret e s m args below meth c s₁ → c.maxLocals = maxL → (∀ x ∈ c.exceptionTable.toList, False) → Pc args s →
      W p l e (headSpec ws rm).room s m args below meth c s.heap [] 0 0 (vx_MQ below Qc XC args s mc ms free) (entryFrame m args maxL)) : vx_Met l y ws rm Pc Qc XC mc ms free := by
  refine MetFree.of_bodyS (code := cc) (maxLocals := maxL) (ret := ret) hy ?_ ?_
  · intro args s m h hn
    obtain ⟨meth, c, h1, h2, h3, h4, h5, h6, -, -⟩ := Cond.code_spec hn (atoms_spec (ws := ws) h _ (by rw [hw]; exact List.mem_cons_self))
    exact ⟨meth, c, h1, h2, h3, h4, h5, h6⟩
  · intro p e s m args below meth c s₁ B hml hP _
    have hh0 : s₁.heap = s.heap := by rw [B.state]; rfl
    have ht : ∀ x ∈ c.exceptionTable.toList, False := by
      obtain ⟨meth9, c9, h1, h2, -, -, -, -, h7, -⟩ := Cond.code_spec B.named (atoms_spec (ws := ws) B.pre _ (by rw [hw]; exact List.mem_cons_self))
      cases Option.some.inj (h1.symm.trans B.method)
      cases Option.some.inj (h2.symm.trans (Stand.of_body B).code)
      intro x hx
      rw [Array.isEmpty_iff.mp h7] at hx
      cases hx
    obtain ⟨t, a1, o, b1, b2, b3⟩ := body p e s m args below meth c s₁ B hml ht hP s₁ hh0 (Stand.of_body B)
    exact ⟨t, o, a1, b1, b2, b3⟩
/-- the table of a body with handlers -/
theorem vx_table {p : Program} {x y : MethodName} {S : Spec} {cc bytes : ByteArray} {maxL maxL' : Nat} {ret ret' : Option FieldType} {e : Env} {s s₁ : State} {m : MethodId} {args : Array Value} {below : List Frame} {meth : Method} {c : Code} {hh : List (Nat × Nat × Nat × Nat)}
    (B : BodyLoose p l y S cc maxL ret e s m args below meth c s₁) (h : (Cond.codeWith y bytes maxL' ret' hh).before args s = true) : c.exceptionTable.toList = tableOf hh := by
  obtain ⟨m9, meth9, c9, hn9, h1, h2, -, -, h6, -⟩ := Cond.codeWith_spec h
  cases Option.some.inj (hn9.symm.trans B.named)
  cases Option.some.inj (h1.symm.trans B.method)
  cases Option.some.inj (h2.symm.trans (Stand.of_body B).code)
  rw [← h6, table_eq]
end Bodies
end VXA
/-! ===== END ===== -/
/-! ===== BEGIN a static call of a method with an exception table ===== -/
section VXS
variable {p : Program} {l : Launch} {e : Env} {R : Room} {s : State} {m : MethodId} {args : Array Value} {below : List Frame} {meth : Method} {c : Code} {T : State} {H : Heap} {locs : List Loc} {cells slots : Nat}
abbrev vx_CSW (R : Room) (s : State) (args : Array Value) (own : String) (index : Nat) (y : MethodName) (bytes : ByteArray) (maxL : Nat) (ret : Option FieldType) (hh : List (Nat × Nat × Nat × Nat)) (ws : List Cond) (rm : Room) (mc ms n : Nat) : Prop :=
  (rm.cells = mc ∧ rm.slots = ms ∧ rm.frames + 1 ≤ R.frames ∧ 8 + (maxL + 11) + rm.locals ≤ R.locals ∧ (∀ w ∈ ws, ∀ (a' : Array Value) (U : State), s.WarmedH U.vm → w.before a' U = true) ∧ Cond.codeWith y bytes maxL ret hh ∈ ws) ∧
  (Cond.codeWith y bytes maxL ret hh).before args s = true ∧ (Cond.initialized y.cls).before args s = true ∧ (y.cls ≠ "java/lang/invoke/MethodHandle" ∧ y.cls ≠ "java/lang/invoke/VarHandle") ∧
  (∀ sig, parseMethodDescriptor y.desc = some sig → n = sig.parameters.length) ∧ (Cond.methodLink own index y).before args s = true ∧ (Cond.static y).before args s = true
theorem vx_cwSW {own : String} {index maxL mc ms : Nat} {y : MethodName} {bytes : ByteArray} {ret : Option FieldType} {hh : List (Nat × Nat × Nat × Nat)} {Ts ws ws' : List Cond} {rm : Room} (n : Nat) (ht : ∀ w ∈ Ts, w.before args s = true) (hT : GoodIn Ts (va_wsS own index y ws)) (hw : ws = Cond.codeWith y bytes maxL ret hh :: ws') (hrc : rm.cells = mc) (hrs : rm.slots = ms)
    (hd : y.cls ≠ "java/lang/invoke/MethodHandle" ∧ y.cls ≠ "java/lang/invoke/VarHandle" ∧ (parseMethodDescriptor y.desc).map (fun d => d.parameters.length) = some n) (hR : rm.frames + 1 ≤ R.frames ∧ 8 + (maxL + 11) + rm.locals ≤ R.locals) :
    vx_CSW R s args own index y bytes maxL ret hh ws rm mc ms n := by
  have ok : ∀ w ∈ va_wsS own index y ws, w.before args s = true := fun w h => ht w (hT w h).1
  have hG : GoodIn Ts ws := fun w h => hT w (by unfold va_wsS; exact List.mem_append_right _ h)
  have hc : Cond.codeWith y bytes maxL ret hh ∈ ws := by rw [hw]; exact List.mem_cons_self
  refine ⟨⟨hrc, hrs, hR.1, hR.2, pay_in ht hG, hc⟩, ht _ (hG _ hc).1, ok _ (by simp [va_wsS]), ⟨hd.1, hd.2.1⟩, fun sig h => ?_, ok _ (by simp [va_wsS]), ok _ (by simp [va_wsS])⟩
  have h2 := hd.2.2
  rw [h] at h2
  exact (Option.some.inj h2).symm
theorem vx_callSW (X : Stand p l e R s m args below meth c T locs cells slots) (hexec : p.tables.exec = Jvm.exec) {own : String} {index : Nat} {y : MethodName} {bytes : ByteArray} {maxL : Nat} {ret : Option FieldType} {hh : List (Nat × Nat × Nat × Nat)}
    (hown : s.vm.findClass own = some m.cls) (hlink : (Cond.methodLink own index y).before args s = true) (hstat : (Cond.static y).before args s = true) (hinit : (Cond.initialized y.cls).before args s = true)
    (hcode : (Cond.codeWith y bytes maxL ret hh).before args s = true) (hy : y.cls ≠ "java/lang/invoke/MethodHandle" ∧ y.cls ≠ "java/lang/invoke/VarHandle")
    {W9 : Nat} {Pre : Pt → Array Value → Prop} {Post : Pt → Array Value → Option Value → Pt → Prop} (hK : Back l R p e below s args y 3 W9 Pre Post)
    {g : JFrame} (hg : g.method = m) (hsize : g.locals.size = c.maxLocals) {argsL rest : List Value} (hlen : ∀ sig, parseMethodDescriptor y.desc = some sig → argsL.length = sig.parameters.length)
    (hstack : g.stack = argsL.reverse ++ rest) (hW : 2 * g.monitorRoom + (rest.map fun v => v.category).sum ≤ W9) (hdg : decode c.code g.pc = .ok (.invokestatic index, 3))
    (hpre : ∀ vm₁, s.WarmedH vm₁ → Pre ⟨T.setVm vm₁, locs, cells, slots⟩ argsL.toArray) :
    ∃ (v : Option Value) (vm₁ : Vm) (B : Pt), s.WarmedH vm₁ ∧ Stand p l e R s m args below meth c B.U B.locs B.cells B.slots ∧ Post ⟨T.setVm vm₁, locs, cells, slots⟩ argsL.toArray v B ∧
      ∀ target, Steps p.tables e below (B.U.setTop { g with pc := g.pc + 3, stack := v.toList ++ rest }) target → Steps p.tables e below (T.setTop g) target := by
  obtain ⟨mk, methM, cM, hnamed, hmethM, -, -, -, -, -, -, hsigM⟩ := Cond.codeWith_spec hcode
  have hstatic : methM.isStatic = true := Cond.static_spec hnamed hmethM hstat
  obtain ⟨kP, hkP, -⟩ := className_of_methodNamed hnamed
  have hinitP : kP.init = .initialized := Cond.initialized_spec (findClass_of_methodNamed hnamed) hkP hinit
  obtain ⟨vm₁, X₁, hstep₁⟩ := X.invokestatic hexec hown hlink hnamed hmethM hstatic hkP hinitP hy (g := g) hg (argsL := argsL) (rest := rest) (hlen _ hsigM) hstack hdg
  obtain ⟨v, B, X', hpost, hsteps⟩ := hK m meth c ⟨T.setVm vm₁, locs, cells, slots⟩ { g with stack := rest } (.invokestatic index) mk argsL.toArray X₁ hg hsize hdg hW (X₁.named hnamed) (hpre vm₁ X₁.warmed)
  exact ⟨v, vm₁, B, X₁.warmed, X', hpost, fun target h => hstep₁ _ fun acts => by rw [doInvoke_state]; exact hsteps.trans h⟩
theorem vx_runSW {y : MethodName} {bytes cc : ByteArray} {maxL nL mc ms n index : Nat} {ret : Option FieldType} {hh : List (Nat × Nat × Nat × Nat)} {ws : List Cond} {rm : Room} {Pc : Array Value → State → Prop} {Qc : Array Value → State → Outcome → State → Prop} {free : Addr → Prop} {Ts : List Cond} {own : String} {As rest : List Value} {g : JFrame}
    (S : CallFix p m c cc nL s args Ts own) (hM : Met l y ws rm Pc Qc mc ms free) (cw : vx_CSW R s args own index y bytes maxL ret hh ws rm mc ms n) (hp : PreS s H Pc As)
    (hg : g.method = m) (hn : As.length = n) (hsize : g.locals.size = nL) (hstack : g.stack = As.reverse ++ rest) (hW : 2 * g.monitorRoom + (rest.map fun v => v.category).sum ≤ 8) (hdg : decode cc g.pc = .ok (.invokestatic index, 3)) (hf : cells + mc ≤ R.cells ∧ slots + ms ≤ R.slots) :
    va_Run p l e R s m args below meth c H locs cells slots mc ms g rest (Qc As.toArray) (free) := by
  obtain ⟨⟨hrc, hrs, hfr, hlo, hws, hcw⟩, hcode, hini, hy, hlen, hl, hstt⟩ := cw
  have hK : Back l R p e below s args y 3 8 (PreOf R mc ms Pc) (PostOf Qc mc ms free) := va_backW (hh := hh) (bytes := bytes) (maxL := maxL) (ret := ret) hM hp.1 hrc hrs hfr hlo hws hcw (fun a' U hW => word_at hW (Or.inl (by first | rfl | simp [Cond.onTables, Cond.keeps, Cond.steady])) hini)
  obtain ⟨hx, hb, hml, ho, -⟩ := S
  intro T hT X
  obtain ⟨v, vm₁, ⟨U', l2, c2, s2⟩, hW₁, X', ⟨g', mk, t, L, e1, e2, hq, h1, hL, h2, h3⟩, st⟩ := vx_callSW X hx (hh := hh) (bytes := bytes) (maxL := maxL) (ret := ret) ho hl hstt hini hcode hy hK hg (hsize.trans hml.symm) (argsL := As) (rest := rest) (fun sig h => hn.trans (hlen sig h)) hstack hW (by rw [hb]; exact hdg)
    (fun vm₁ hW₁ => ⟨hf.1, hf.2, hp.2 (T.setVm vm₁) hT hW₁⟩)
  dsimp only [Pt.U, Pt.locs, Pt.cells, Pt.slots] at X' e1 e2 h1 h2 h3 st
  subst h1; subst h2; subst h3
  exact ⟨v, (T.setVm vm₁).calling g' mk As.toArray, t, U', L, hT, X', hL, e1, e2, hq, st⟩
/-- not caught here, past rows that name other classes: it goes on to the caller -/
theorem vx_outP {p : Program} {l : Launch} {e : Env} {R : Room} {s : State} {m : MethodId} {args : Array Value} {below : List Frame} {meth : Method} {c : Code} {H : Heap} {locs : List Loc} {cells slots : Nat} {free : Addr → Prop} {ls : Array Slot} {rest : List Value} {Qc : Array Value → State → Outcome → State → Prop} {XC : String → State → State → Prop}
    {pc : Nat} {own E : String} {ce : Cell} {q : Addr} {mc ms : Nat} (hown : s.vm.findClass own = some m.cls) (hlocks : meth.locks = false)
    (hpass : ∀ z ∈ c.exceptionTable.toList, covers z pc = false ∨ (z.catchType ≠ 0 ∧ ∃ nm : String, (Cond.classLink own z.catchType nm).before args s = true ∧ va_Nc E nm s)) (hcell : H[q]? = some ce) (hv : ce.vm = .none) (hcl : s.vm.findClass E = some ce.cls)
    (hx : ∀ t : State, t.heap = H → s.vm.Alike t.vm → XC E s t) (hf : ∀ z ∈ locs, free z.base) (hc : cells ≤ mc) (hs : slots ≤ ms) :
    vx_W p l e R s m args below meth c H locs cells slots (vx_MQ below Qc XC args s mc ms free) (F0 m pc ls rest) q := by
  intro T hT X
  have hpl : e.platform.magicAccessors = ({} : Platform).magicAccessors := by rw [X.admits.platform]
  obtain ⟨vm', hW', X', st⟩ := X.outThrough hlocks q (g := F0 m pc ls rest) rfl rfl rfl (cell := ce) (by rw [hT]; exact hcell) (by rw [hv]; rfl)
    (by obtain ⟨k9, h9, -⟩ := Vm.findClass_spec hcl; exact ⟨k9, h9⟩) (fun z hz => by
      rcases hpass z hz with h | ⟨hz0, nm, hl1, hn1⟩
      · exact Or.inl h
      · obtain ⟨c6, hc6, hcl6⟩ := Cond.classLink_spec hown hl1 e.platform hpl
        obtain ⟨a8, b8, h1, h2, h3⟩ := hn1
        cases Option.some.inj (h1.symm.trans hcl)
        cases Option.some.inj (h2.symm.trans hc6)
        exact Or.inr ⟨hz0, _, hcl6, h3⟩)
  obtain ⟨g₀, hfr⟩ := X'.frames_eq
  have hcell9 : ((T.setVm vm').setFrames (.throwing q :: below)).heap[q]? = some ce := by
    show T.heap[q]? = some ce
    rw [hT]; exact hcell
  have hend : Ended ((T.setVm vm').setFrames (.throwing q :: below)) below (.threw q) := State.frames_setFrames _ (State.cur_lt_of_frames hfr)
  refine ⟨(T.setVm vm').setFrames (.throwing q :: below), ?_, .threw q, X'.here.running, hend, Or.inr ⟨q, rfl, E, ce, locs, hx _ hT (X'.ends _).1.alike, hcell9, hv, hcl, (X'.ends _).1, (X'.ends _).2.mono hc hs, hf⟩⟩
  rw [X.pushThrowing_eq]
  exact st
/-- a thing of a world lies in the heap -/
theorem vx_lt {D : va_G} {cl : List vw_C} {ws : va_W} {H1 : Heap} (h : va_P D cl ws H1) {k : Nat} {q : Nat × va_E} (hk : ws[k]? = some q) : q.1 < H1.size := (h k q hk).lt
end VXS
/-! ===== END ===== -/
/-! ===== BEGIN methods with a table of their own: called by a name, returning or throwing ===== -/
section VXH
/-! vx_backW, vx_callVX, vx_callSX, vx_callVW, vx_runVW, vx_runVX, vx_runSX, vx_ofWH follow the same proofs as their sisters above (Free/Laws.lean, Shelf42/LK1.lean); vx_outP calls Shelf42/NT130.lean (outThrough). -/
section
variable {l : Launch} {R : Room} {p : Program} {e : Env} {below : List Frame} {s : State} {sargs : Array Value} {y : MethodName} {len W9 : Nat}
theorem vx_backW {ws : List Cond} {rm : Room} {Pc : Array Value → State → Prop} {Qc : Array Value → State → Outcome → State → Prop} {XC : String → State → State → Prop} {mc ms : Nat} {free : Addr → Prop} {bytes : ByteArray} {maxL : Nat} {ret : Option FieldType} {hh : List (Nat × Nat × Nat × Nat)}
    (hM : vx_Met l y ws rm Pc Qc XC mc ms free) (hblind : FrameBlind Pc) (hrc : rm.cells = mc) (hrs : rm.slots = ms)
    (hframes : rm.frames + 1 ≤ R.frames) (hlocals : W9 + (maxL + 11) + rm.locals ≤ R.locals)
    (hws : ∀ w ∈ ws, ∀ a' U, s.WarmedH U.vm → w.before a' U = true) (hcode : Cond.codeWith y bytes maxL ret hh ∈ ws) (hinit : ∀ a' U, s.WarmedH U.vm → (Cond.initialized y.cls).before a' U = true) :
    vx_Back l R p e below s sargs y len W9 (PreOf R mc ms Pc) (PostOf Qc mc ms free) (vx_Post XC mc ms free) := by
  intro m meth c A g ig mk a X hg hsize hdg hW hn hp
  have h1 : (headSpec ws rm).pre.before a A.U = true := atoms_intro fun w hw => hws w hw _ _ X.warmed
  have h2 : (Cond.codeWith y bytes maxL ret hh).before a A.U = true := hws _ hcode _ _ X.warmed
  have h3 : (Cond.initialized y.cls).before a A.U = true := hinit _ _ X.warmed
  have h4 : A.cells + (headSpec ws rm).room.cells ≤ R.cells := by rw [show (headSpec ws rm).room.cells = mc from hrc]; exact hp.1
  have h5 : A.slots + (headSpec ws rm).room.slots ≤ R.slots := by rw [show (headSpec ws rm).room.slots = ms from hrs]; exact hp.2.1
  have hPc : Pc a (A.U.calling g mk a) := hblind _ _ _ _ hp.2.2
  obtain ⟨U, Ls, c0, s0⟩ := A
  dsimp only [Pt.U, Pt.locs, Pt.cells, Pt.slots] at h1 h2 h3 h4 h5 X hn hPc ⊢
  obtain ⟨m9, methY, cY, hn9, hmY, hcY, -, hlY, -⟩ := Cond.codeWith_spec h2
  cases Option.some.inj (hn9.symm.trans hn)
  obtain ⟨kY, hkY, -⟩ := className_of_methodNamed hn
  have hinitY : kY.init = .initialized := Cond.initialized_spec (findClass_of_methodNamed hn) hkY h3
  have h : At U g.method c below := by rw [hg]; exact X.here
  have hlocals9 : W9 + (maxL + 11) + (headSpec ws rm).room.locals ≤ R.locals := hlocals
  have happ : (headSpec ws rm).appliesLoose y e.platform (U.calling g mk a) = true :=
    Spec.appliesLoose_calling (g := g) h hdg hn hkY hinitY
      (X.room_calling (g := g) (R' := (headSpec ws rm).room) hsize hmY hcY hframes (by rw [hlY]; omega) h4 h5) h1
  obtain ⟨mid, hmid⟩ := h.above
  have hfr : (U.setTop g).frames = (.java g :: mid) ++ below := by rw [State.frames_setTop' g h.top, hmid]; rfl
  obtain ⟨o, s₂, hsteps, -, hend, hq⟩ := Steps.callFree hM p X.admits X.cas X.clock (acts := []) hfr happ hPc trivial
  have hq' : vx_Q Qc XC mc ms free a (U.calling g mk a) o s₂ := hq
  rw [State.frames_setTop' g h.top] at hend
  obtain ⟨g₀, hg0⟩ := Option.isSome_iff_exists.mp h.top
  obtain ⟨r, hr⟩ := State.topJava?_eq_some.mp hg0
  have hr' : (({ U with heap := s₂.heap, slotsUsed := s₂.slotsUsed } : State).setVm s₂.vm).frames = .java g₀ :: r := hr
  rcases hq' with ⟨hqc, L, hfe, hL⟩ | ⟨q, rfl, E, ce, L, hx, hce, hcv, hcl, hW₂, hsm, hL⟩
  · obtain ⟨⟨v, rfl⟩, hW₂, e2, q2, q3, q4, q5, q6⟩ := id hfe
    have e3 : s₂ = ({ (U.calling g mk a).setFrames s₂.frames with heap := s₂.heap, slotsUsed := s₂.slotsUsed } : State).setVm s₂.vm := by
      have : s₂ = ({ s₂ with vm := (U.calling g mk a).vm } : State).setVm s₂.vm := rfl
      rw [e2] at this
      exact this
    obtain ⟨c₂, i₂, len₂, hc₂, hd₂, hf₂⟩ := hend
    have hW' : U.WarmedH s₂.vm := hW₂
    have hcc : c₂ = c := by
      have h1 : s₂.code? g.method = U.code? g.method := by
        rw [State.code?_eq, State.code?_eq, hW'.alike.method?]
      exact Option.some.inj (hc₂.symm.trans (h1.trans h.code))
    subst hcc
    have hlen : len₂ = len := by rw [hdg] at hd₂; cases hd₂; rfl
    subst hlen
    have hs₂ : s₂ = (({ U with heap := s₂.heap, slotsUsed := s₂.slotsUsed } : State).setVm s₂.vm).setTop { g with pc := g.pc + len₂, stack := v.toList ++ g.stack } := by
      refine e3.trans ?_
      rw [hf₂, State.calling_eq h.top, State.setFrames_setFrames, State.setTop_of_frames _ hr', hr]
      rfl
    have hsame : U.sameButNew ({ U with heap := s₂.heap, slotsUsed := s₂.slotsUsed } : State) L mc ms := by
      refine ⟨?_, q2, q3, q4, q5, q6⟩
      obtain ⟨t, ht, -⟩ := State.frames_cons hr
      show ({ U with heap := s₂.heap, slotsUsed := s₂.slotsUsed } : State) = { U.setFrames U.frames with heap := s₂.heap, slotsUsed := s₂.slotsUsed }
      rw [State.setFrames_self ht]
    subst hg
    refine Or.inl ⟨v, ⟨(({ U with heap := s₂.heap, slotsUsed := s₂.slotsUsed } : State).setVm s₂.vm), Ls ++ L, c0 + mc, s0 + ms⟩,
      ⟨X.admits, X.cas, X.clock, X.frames, X.room, X.hears, X.method, X.code, (X.here.setHeapUsed s₂.heap s₂.slotsUsed).setVm hW'.alike, X.tail, State.WarmedH.trans X.warmed hW', X.limits, X.bytes, X.same.trans (hsame.setVm s.vm)⟩,
      ⟨g, mk, s₂, L, rfl, rfl, hqc, rfl, hL, rfl, rfl⟩, ?_⟩
    show Steps p.tables e below _ ((({ U with heap := s₂.heap, slotsUsed := s₂.slotsUsed } : State).setVm s₂.vm).setTop { g with pc := g.pc + len₂, stack := v.toList ++ g.stack })
    rw [← hs₂]
    exact hsteps
  · obtain ⟨e2, q2, q3, q4, q5, q6⟩ := id hsm
    have e3 : s₂ = ({ (U.calling g mk a).setFrames s₂.frames with heap := s₂.heap, slotsUsed := s₂.slotsUsed } : State).setVm s₂.vm := by
      have : s₂ = ({ s₂ with vm := (U.calling g mk a).vm } : State).setVm s₂.vm := rfl
      rw [e2] at this
      exact this
    have hf₂ : s₂.frames = .throwing q :: .java g :: U.frames.tail := hend
    have hW' : U.WarmedH s₂.vm := hW₂
    have hs₂ : s₂ = ((({ U with heap := s₂.heap, slotsUsed := s₂.slotsUsed } : State).setVm s₂.vm).setTop g).pushFrame (.throwing q) := by
      refine e3.trans ?_
      rw [hf₂, State.calling_eq h.top, State.setFrames_setFrames, State.pushFrame, State.frames_setTop _ hr', State.setTop_of_frames _ hr', State.setFrames_setFrames, hr]
      rfl
    have hsame : U.sameButNew ({ U with heap := s₂.heap, slotsUsed := s₂.slotsUsed } : State) L mc ms := by
      refine ⟨?_, q2, q3, q4, q5, q6⟩
      obtain ⟨t, ht, -⟩ := State.frames_cons hr
      show ({ U with heap := s₂.heap, slotsUsed := s₂.slotsUsed } : State) = { U.setFrames U.frames with heap := s₂.heap, slotsUsed := s₂.slotsUsed }
      rw [State.setFrames_self ht]
    subst hg
    refine Or.inr ⟨q, ⟨(({ U with heap := s₂.heap, slotsUsed := s₂.slotsUsed } : State).setVm s₂.vm), Ls ++ L, c0 + mc, s0 + ms⟩,
      ⟨X.admits, X.cas, X.clock, X.frames, X.room, X.hears, X.method, X.code, (X.here.setHeapUsed s₂.heap s₂.slotsUsed).setVm hW'.alike, X.tail, State.WarmedH.trans X.warmed hW', X.limits, X.bytes, X.same.trans (hsame.setVm s.vm)⟩,
      ⟨g, mk, s₂, L, E, ce, rfl, rfl, hx, hce, hcv, hcl, rfl, hL, rfl, rfl⟩, ?_⟩
    show Steps p.tables e below _ (((({ U with heap := s₂.heap, slotsUsed := s₂.slotsUsed } : State).setVm s₂.vm).setTop g).pushFrame (.throwing q))
    rw [← hs₂]
    exact hsteps
end
variable {p : Program} {l : Launch} {e : Env} {R : Room} {s : State} {m : MethodId} {args : Array Value} {below : List Frame} {meth : Method} {c : Code} {T : State} {H : Heap} {locs : List Loc} {cells slots : Nat}
theorem vx_callVX (X : Stand p l e R s m args below meth c T locs cells slots) (hexec : p.tables.exec = Jvm.exec) {own C : String} {index : Nat} {y : MethodName} {bytes : ByteArray} {maxL : Nat} {ret : Option FieldType} {hh : List (Nat × Nat × Nat × Nat)}
    (hown : s.vm.findClass own = some m.cls) (hlink : (Cond.methodLink own index y).before args s = true) (hinst : (Cond.instanceMethod y).before args s = true) (hsel : (Cond.selects C y y).before args s = true)
    (hcode : (Cond.codeWith y bytes maxL ret hh).before args s = true) (hy : y.cls ≠ "java/lang/invoke/MethodHandle" ∧ y.cls ≠ "java/lang/invoke/VarHandle")
    {W9 : Nat} {Pre : Pt → Array Value → Prop} {Post : Pt → Array Value → Option Value → Pt → Prop} {PostX : Pt → Array Value → Addr → Pt → Prop} (hK : vx_Back l R p e below s args y 3 W9 Pre Post PostX)
    {b : Addr} {cellB : Cell} (hcell : T.heap[b]? = some cellB) (hobj : cellB.vm.isStatics = false) (hcls : s.vm.findClass C = some cellB.cls)
    {g : JFrame} (hg : g.method = m) (hsize : g.locals.size = c.maxLocals) {argsL rest : List Value} (hlen : ∀ sig, parseMethodDescriptor y.desc = some sig → argsL.length = sig.parameters.length)
    (hstack : g.stack = argsL.reverse ++ .ref b :: rest) (hW : 2 * g.monitorRoom + (rest.map fun v => v.category).sum ≤ W9) (hdg : decode c.code g.pc = .ok (.invokevirtual index, 3))
    (hpre : ∀ vm₁, s.WarmedH vm₁ → Pre ⟨T.setVm vm₁, locs, cells, slots⟩ (Value.ref b :: argsL).toArray) :
    (∃ (v : Option Value) (vm₁ : Vm) (B : Pt), s.WarmedH vm₁ ∧ Stand p l e R s m args below meth c B.U B.locs B.cells B.slots ∧ Post ⟨T.setVm vm₁, locs, cells, slots⟩ (Value.ref b :: argsL).toArray v B ∧
      ∀ target, Steps p.tables e below (B.U.setTop { g with pc := g.pc + 3, stack := v.toList ++ rest }) target → Steps p.tables e below (T.setTop g) target) ∨
    (∃ (q : Addr) (vm₁ : Vm) (B : Pt), s.WarmedH vm₁ ∧ Stand p l e R s m args below meth c B.U B.locs B.cells B.slots ∧ PostX ⟨T.setVm vm₁, locs, cells, slots⟩ (Value.ref b :: argsL).toArray q B ∧
      Steps p.tables e below (T.setTop g) ((B.U.setTop { g with stack := rest }).pushFrame (.throwing q))) := by
  obtain ⟨mk, methM, hnamed, hmethM, hstM, habM⟩ := Cond.instanceMethod_spec hinst
  obtain ⟨m8, methM', cM, hn8, hmethM', -, -, -, -, -, -, hsigM⟩ := Cond.codeWith_spec hcode
  cases Option.some.inj (hn8.symm.trans hnamed)
  cases hmethM.symm.trans hmethM'
  obtain ⟨c2, r2, m2, q1, q2, q3, q4, kP, hkP, hkPi⟩ := Cond.selects_spec hsel
  cases hcls.symm.trans q1
  cases (State.methodFound?_of_named hnamed hy).symm.trans q2
  cases hnamed.symm.trans q3
  have hselP : selectMethod e.platform s.vm cellB.cls mk = .method mk := by rw [Launch.admits_selectMethod X.admits]; exact q4
  obtain ⟨vm₁, X₁, hstep₁⟩ := X.invokevirtual hexec hown hlink hnamed hmethM hstM hkP hkPi hy (a := b) (cell := cellB) hcell
    (fun z h => by rw [h] at hobj; cases hobj) hselP hmethM habM hkP hkPi (g := g) hg (argsL := argsL) (rest := rest) (hlen _ hsigM) hstack hdg
  rcases hK m meth c ⟨T.setVm vm₁, locs, cells, slots⟩ { g with stack := rest } (.invokevirtual index) mk (Value.ref b :: argsL).toArray X₁ hg hsize hdg hW (X₁.named hnamed) (hpre vm₁ X₁.warmed) with ⟨v, B, X', hpost, hsteps⟩ | ⟨q, B, X', hpost, hsteps⟩
  · exact Or.inl ⟨v, vm₁, B, X₁.warmed, X', hpost, fun target h => hstep₁ _ fun acts => by rw [doInvoke_state]; exact hsteps.trans h⟩
  · exact Or.inr ⟨q, vm₁, B, X₁.warmed, X', hpost, hstep₁ _ fun acts => by rw [doInvoke_state]; exact hsteps⟩
theorem vx_callSX (X : Stand p l e R s m args below meth c T locs cells slots) (hexec : p.tables.exec = Jvm.exec) {own : String} {index : Nat} {y : MethodName} {bytes : ByteArray} {maxL : Nat} {ret : Option FieldType} {hh : List (Nat × Nat × Nat × Nat)}
    (hown : s.vm.findClass own = some m.cls) (hlink : (Cond.methodLink own index y).before args s = true) (hstat : (Cond.static y).before args s = true) (hinit : (Cond.initialized y.cls).before args s = true)
    (hcode : (Cond.codeWith y bytes maxL ret hh).before args s = true) (hy : y.cls ≠ "java/lang/invoke/MethodHandle" ∧ y.cls ≠ "java/lang/invoke/VarHandle")
    {W9 : Nat} {Pre : Pt → Array Value → Prop} {Post : Pt → Array Value → Option Value → Pt → Prop} {PostX : Pt → Array Value → Addr → Pt → Prop} (hK : vx_Back l R p e below s args y 3 W9 Pre Post PostX)
    {g : JFrame} (hg : g.method = m) (hsize : g.locals.size = c.maxLocals) {argsL rest : List Value} (hlen : ∀ sig, parseMethodDescriptor y.desc = some sig → argsL.length = sig.parameters.length)
    (hstack : g.stack = argsL.reverse ++ rest) (hW : 2 * g.monitorRoom + (rest.map fun v => v.category).sum ≤ W9) (hdg : decode c.code g.pc = .ok (.invokestatic index, 3))
    (hpre : ∀ vm₁, s.WarmedH vm₁ → Pre ⟨T.setVm vm₁, locs, cells, slots⟩ argsL.toArray) :
    (∃ (v : Option Value) (vm₁ : Vm) (B : Pt), s.WarmedH vm₁ ∧ Stand p l e R s m args below meth c B.U B.locs B.cells B.slots ∧ Post ⟨T.setVm vm₁, locs, cells, slots⟩ argsL.toArray v B ∧
      ∀ target, Steps p.tables e below (B.U.setTop { g with pc := g.pc + 3, stack := v.toList ++ rest }) target → Steps p.tables e below (T.setTop g) target) ∨
    (∃ (q : Addr) (vm₁ : Vm) (B : Pt), s.WarmedH vm₁ ∧ Stand p l e R s m args below meth c B.U B.locs B.cells B.slots ∧ PostX ⟨T.setVm vm₁, locs, cells, slots⟩ argsL.toArray q B ∧
      Steps p.tables e below (T.setTop g) ((B.U.setTop { g with stack := rest }).pushFrame (.throwing q))) := by
  obtain ⟨mk, methM, cM, hnamed, hmethM, -, -, -, -, -, -, hsigM⟩ := Cond.codeWith_spec hcode
  have hstatic : methM.isStatic = true := Cond.static_spec hnamed hmethM hstat
  obtain ⟨kP, hkP, -⟩ := className_of_methodNamed hnamed
  have hinitP : kP.init = .initialized := Cond.initialized_spec (findClass_of_methodNamed hnamed) hkP hinit
  obtain ⟨vm₁, X₁, hstep₁⟩ := X.invokestatic hexec hown hlink hnamed hmethM hstatic hkP hinitP hy (g := g) hg (argsL := argsL) (rest := rest) (hlen _ hsigM) hstack hdg
  rcases hK m meth c ⟨T.setVm vm₁, locs, cells, slots⟩ { g with stack := rest } (.invokestatic index) mk argsL.toArray X₁ hg hsize hdg hW (X₁.named hnamed) (hpre vm₁ X₁.warmed) with ⟨v, B, X', hpost, hsteps⟩ | ⟨q, B, X', hpost, hsteps⟩
  · exact Or.inl ⟨v, vm₁, B, X₁.warmed, X', hpost, fun target h => hstep₁ _ fun acts => by rw [doInvoke_state]; exact hsteps.trans h⟩
  · exact Or.inr ⟨q, vm₁, B, X₁.warmed, X', hpost, hstep₁ _ fun acts => by rw [doInvoke_state]; exact hsteps⟩
theorem vx_callVW (X : Stand p l e R s m args below meth c T locs cells slots) (hexec : p.tables.exec = Jvm.exec) {own C : String} {index : Nat} {y : MethodName} {bytes : ByteArray} {maxL : Nat} {ret : Option FieldType} {hh : List (Nat × Nat × Nat × Nat)}
    (hown : s.vm.findClass own = some m.cls) (hlink : (Cond.methodLink own index y).before args s = true) (hinst : (Cond.instanceMethod y).before args s = true) (hsel : (Cond.selects C y y).before args s = true)
    (hcode : (Cond.codeWith y bytes maxL ret hh).before args s = true) (hy : y.cls ≠ "java/lang/invoke/MethodHandle" ∧ y.cls ≠ "java/lang/invoke/VarHandle")
    {W9 : Nat} {Pre : Pt → Array Value → Prop} {Post : Pt → Array Value → Option Value → Pt → Prop} (hK : Back l R p e below s args y 3 W9 Pre Post)
    {b : Addr} {cellB : Cell} (hcell : T.heap[b]? = some cellB) (hobj : cellB.vm.isStatics = false) (hcls : s.vm.findClass C = some cellB.cls)
    {g : JFrame} (hg : g.method = m) (hsize : g.locals.size = c.maxLocals) {argsL rest : List Value} (hlen : ∀ sig, parseMethodDescriptor y.desc = some sig → argsL.length = sig.parameters.length)
    (hstack : g.stack = argsL.reverse ++ .ref b :: rest) (hW : 2 * g.monitorRoom + (rest.map fun v => v.category).sum ≤ W9) (hdg : decode c.code g.pc = .ok (.invokevirtual index, 3))
    (hpre : ∀ vm₁, s.WarmedH vm₁ → Pre ⟨T.setVm vm₁, locs, cells, slots⟩ (Value.ref b :: argsL).toArray) :
    ∃ (v : Option Value) (vm₁ : Vm) (B : Pt), s.WarmedH vm₁ ∧ Stand p l e R s m args below meth c B.U B.locs B.cells B.slots ∧ Post ⟨T.setVm vm₁, locs, cells, slots⟩ (Value.ref b :: argsL).toArray v B ∧
      ∀ target, Steps p.tables e below (B.U.setTop { g with pc := g.pc + 3, stack := v.toList ++ rest }) target → Steps p.tables e below (T.setTop g) target := by
  obtain ⟨mk, methM, hnamed, hmethM, hstM, habM⟩ := Cond.instanceMethod_spec hinst
  obtain ⟨m8, methM', cM, hn8, hmethM', -, -, -, -, -, -, hsigM⟩ := Cond.codeWith_spec hcode
  cases Option.some.inj (hn8.symm.trans hnamed)
  cases hmethM.symm.trans hmethM'
  obtain ⟨c2, r2, m2, q1, q2, q3, q4, kP, hkP, hkPi⟩ := Cond.selects_spec hsel
  cases hcls.symm.trans q1
  cases (State.methodFound?_of_named hnamed hy).symm.trans q2
  cases hnamed.symm.trans q3
  have hselP : selectMethod e.platform s.vm cellB.cls mk = .method mk := by rw [Launch.admits_selectMethod X.admits]; exact q4
  obtain ⟨vm₁, X₁, hstep₁⟩ := X.invokevirtual hexec hown hlink hnamed hmethM hstM hkP hkPi hy (a := b) (cell := cellB) hcell
    (fun z h => by rw [h] at hobj; cases hobj) hselP hmethM habM hkP hkPi (g := g) hg (argsL := argsL) (rest := rest) (hlen _ hsigM) hstack hdg
  obtain ⟨v, B, X', hpost, hsteps⟩ := hK m meth c ⟨T.setVm vm₁, locs, cells, slots⟩ { g with stack := rest } (.invokevirtual index) mk (Value.ref b :: argsL).toArray X₁ hg hsize hdg hW (X₁.named hnamed) (hpre vm₁ X₁.warmed)
  exact ⟨v, vm₁, B, X₁.warmed, X', hpost, fun target h => hstep₁ _ fun acts => by rw [doInvoke_state]; exact hsteps.trans h⟩
abbrev vx_CVW (R : Room) (s : State) (args : Array Value) (own C : String) (index : Nat) (y : MethodName) (bytes : ByteArray) (maxL : Nat) (ret : Option FieldType) (hh : List (Nat × Nat × Nat × Nat)) (ws : List Cond) (rm : Room) (mc ms n : Nat) : Prop :=
  (rm.cells = mc ∧ rm.slots = ms ∧ rm.frames + 1 ≤ R.frames ∧ 8 + (maxL + 11) + rm.locals ≤ R.locals ∧ (∀ w ∈ ws, ∀ (a' : Array Value) (U : State), s.WarmedH U.vm → w.before a' U = true) ∧ Cond.codeWith y bytes maxL ret hh ∈ ws) ∧
  (Cond.codeWith y bytes maxL ret hh).before args s = true ∧ (Cond.initialized y.cls).before args s = true ∧ (y.cls ≠ "java/lang/invoke/MethodHandle" ∧ y.cls ≠ "java/lang/invoke/VarHandle") ∧
  (∀ sig, parseMethodDescriptor y.desc = some sig → n = sig.parameters.length) ∧ (Cond.methodLink own index y).before args s = true ∧ (Cond.instanceMethod y).before args s = true ∧ (Cond.selects C y y).before args s = true
theorem vx_cwVW {own C : String} {index maxL mc ms : Nat} {y : MethodName} {bytes : ByteArray} {ret : Option FieldType} {hh : List (Nat × Nat × Nat × Nat)} {Ts ws ws' : List Cond} {rm : Room} (n : Nat) (ht : ∀ w ∈ Ts, w.before args s = true) (hT : GoodIn Ts (wsV own index C y ws)) (hw : ws = Cond.codeWith y bytes maxL ret hh :: ws') (hrc : rm.cells = mc) (hrs : rm.slots = ms)
    (hd : y.cls = C ∧ y.cls ≠ "java/lang/invoke/MethodHandle" ∧ y.cls ≠ "java/lang/invoke/VarHandle" ∧ (parseMethodDescriptor y.desc).map (fun d => d.parameters.length) = some n) (hR : rm.frames + 1 ≤ R.frames ∧ 8 + (maxL + 11) + rm.locals ≤ R.locals) :
    vx_CVW R s args own C index y bytes maxL ret hh ws rm mc ms n := by
  obtain ⟨hC, hd⟩ := hd
  subst hC
  have ok : ∀ w ∈ wsV own index y.cls y ws, w.before args s = true := fun w h => ht w (hT w h).1
  have hG : GoodIn Ts ws := fun w h => hT w (by unfold wsV; exact List.mem_append_right _ h)
  have hc : Cond.codeWith y bytes maxL ret hh ∈ ws := by rw [hw]; exact List.mem_cons_self
  refine ⟨⟨hrc, hrs, hR.1, hR.2, pay_in ht hG, hc⟩, ht _ (hG _ hc).1, ok _ (by simp [wsV]), ⟨hd.1, hd.2.1⟩, fun sig h => ?_, ok _ (by simp [wsV]), ok _ (by simp [wsV]), ok _ (by simp [wsV])⟩
  have h2 := hd.2.2
  rw [h] at h2
  exact (Option.some.inj h2).symm
theorem vx_runVW {y : MethodName} {bytes cc : ByteArray} {maxL nL mc ms n index : Nat} {ret : Option FieldType} {hh : List (Nat × Nat × Nat × Nat)} {ws : List Cond} {rm : Room} {Pc : Array Value → State → Prop} {Qc : Array Value → State → Outcome → State → Prop} {free : Addr → Prop} {Ts : List Cond} {own C : String} {b : Addr} {As rest : List Value} {g : JFrame}
    (S : CallFix p m c cc nL s args Ts own) (hM : Met l y ws rm Pc Qc mc ms free) (cw : vx_CVW R s args own C index y bytes maxL ret hh ws rm mc ms n) (hp : PreV s H C b Pc As)
    (hg : g.method = m) (hn : As.length = n) (hsize : g.locals.size = nL) (hstack : g.stack = As.reverse ++ .ref b :: rest) (hW : 2 * g.monitorRoom + (rest.map fun v => v.category).sum ≤ 8) (hdg : decode cc g.pc = .ok (.invokevirtual index, 3)) (hf : cells + mc ≤ R.cells ∧ slots + ms ≤ R.slots) :
    va_Run p l e R s m args below meth c H locs cells slots mc ms g rest (Qc (Value.ref b :: As).toArray) free := by
  obtain ⟨⟨hrc, hrs, hfr, hlo, hws, hcw⟩, hcode, hini, hy, hlen, hl, hin, hse⟩ := cw
  have hK : Back l R p e below s args y 3 8 (PreOf R mc ms Pc) (PostOf Qc mc ms free) := va_backW (hh := hh) (bytes := bytes) (maxL := maxL) (ret := ret) hM hp.1 hrc hrs hfr hlo hws hcw (fun a' U hW => word_at hW (Or.inl (by first | rfl | simp [Cond.onTables, Cond.keeps, Cond.steady])) hini)
  obtain ⟨hx, hb, hml, ho, -⟩ := S
  obtain ⟨-, ⟨cellB, hcB, hoB, hclB⟩, hPc⟩ := hp
  intro T hT X
  obtain ⟨v, vm₁, ⟨U', l2, c2, s2⟩, hW₁, X', ⟨g', mk, t, L, e1, e2, hq, h1, hL, h2, h3⟩, st⟩ := vx_callVW X hx (C := C) (hh := hh) (bytes := bytes) (maxL := maxL) (ret := ret) ho hl hin hse hcode hy hK (by rw [hT]; exact hcB) hoB hclB hg (hsize.trans hml.symm) (argsL := As) (rest := rest) (fun sig h => hn.trans (hlen sig h)) hstack hW (by rw [hb]; exact hdg)
    (fun vm₁ hW₁ => ⟨hf.1, hf.2, hPc (T.setVm vm₁) hT hW₁⟩)
  dsimp only [Pt.U, Pt.locs, Pt.cells, Pt.slots] at X' e1 e2 h1 h2 h3 st
  subst h1; subst h2; subst h3
  exact ⟨v, (T.setVm vm₁).calling g' mk (Value.ref b :: As).toArray, t, U', L, hT, X', hL, e1, e2, hq, st⟩
section
variable {y : MethodName} {bytes cc : ByteArray} {maxL nL mc ms n index : Nat} {ret : Option FieldType} {ws : List Cond} {rm : Room} {Pc : Array Value → State → Prop} {Qc : Array Value → State → Outcome → State → Prop} {XC : String → State → State → Prop} {free : Addr → Prop} {Ts : List Cond} {own C : String} {b : Addr} {As rest : List Value} {g : JFrame}
theorem vx_runVX {hh : List (Nat × Nat × Nat × Nat)} (S : CallFix p m c cc nL s args Ts own) (hM : vx_Met l y ws rm Pc Qc XC mc ms free) (cw : vx_CVW R s args own C index y bytes maxL ret hh ws rm mc ms n) (hp : PreV s H C b Pc As)
    (hg : g.method = m) (hn : As.length = n) (hsize : g.locals.size = nL) (hstack : g.stack = As.reverse ++ .ref b :: rest) (hW : 2 * g.monitorRoom + (rest.map fun v => v.category).sum ≤ 8) (hdg : decode cc g.pc = .ok (.invokevirtual index, 3)) (hf : cells + mc ≤ R.cells ∧ slots + ms ≤ R.slots) :
    vx_Run p l e R s m args below meth c H locs cells slots mc ms g rest (Qc (Value.ref b :: As).toArray) XC free := by
  obtain ⟨⟨hrc, hrs, hfr, hlo, hws, hcw⟩, hcode, hini, hy, hlen, hl, hin, hse⟩ := cw
  have hK : vx_Back l R p e below s args y 3 8 (PreOf R mc ms Pc) (PostOf Qc mc ms free) (vx_Post XC mc ms free) := vx_backW (hh := hh) (bytes := bytes) (maxL := maxL) (ret := ret) hM hp.1 hrc hrs hfr hlo hws hcw (fun a' U hW => word_at hW (Or.inl (by first | rfl | simp [Cond.onTables, Cond.keeps, Cond.steady])) hini)
  obtain ⟨hx, hb, hml, ho, -⟩ := S
  obtain ⟨-, ⟨cellB, hcB, hoB, hclB⟩, hPc⟩ := hp
  intro T hT X
  rcases vx_callVX X hx (C := C) (hh := hh) (bytes := bytes) (maxL := maxL) (ret := ret) ho hl hin hse hcode hy hK (by rw [hT]; exact hcB) hoB hclB hg (hsize.trans hml.symm) (argsL := As) (rest := rest) (fun sig h => hn.trans (hlen sig h)) hstack hW (by rw [hb]; exact hdg)
    (fun vm₁ hW₁ => ⟨hf.1, hf.2, hPc (T.setVm vm₁) hT hW₁⟩) with ⟨v, vm₁, ⟨U', l2, c2, s2⟩, hW₁, X', ⟨g', mk, t, L, e1, e2, hq, h1, hL, h2, h3⟩, st⟩ | ⟨q, vm₁, ⟨U', l2, c2, s2⟩, hW₁, X', ⟨g', mk, t, L, E, ce, e1, e2, hq, hce, hcv, hcl, h1, hL, h2, h3⟩, st⟩
  · dsimp only [Pt.U, Pt.locs, Pt.cells, Pt.slots] at X' e1 e2 h1 h2 h3 st
    subst h1; subst h2; subst h3
    exact Or.inl ⟨v, (T.setVm vm₁).calling g' mk (Value.ref b :: As).toArray, t, U', L, hT, X', hL, e1, e2, hq, st⟩
  · dsimp only [Pt.U, Pt.locs, Pt.cells, Pt.slots] at X' e1 e2 h1 h2 h3 st hcl
    subst h1; subst h2; subst h3
    exact Or.inr ⟨q, (T.setVm vm₁).calling g' mk (Value.ref b :: As).toArray, t, U', L, E, ce, hT, X', hL, e1, e2, hq, hce, hcv, vx_cls hW₁ hcl, st⟩
theorem vx_runSX {hh : List (Nat × Nat × Nat × Nat)} (S : CallFix p m c cc nL s args Ts own) (hM : vx_Met l y ws rm Pc Qc XC mc ms free) (cw : vx_CSW R s args own index y bytes maxL ret hh ws rm mc ms n) (hp : PreS s H Pc As)
    (hg : g.method = m) (hn : As.length = n) (hsize : g.locals.size = nL) (hstack : g.stack = As.reverse ++ rest) (hW : 2 * g.monitorRoom + (rest.map fun v => v.category).sum ≤ 8) (hdg : decode cc g.pc = .ok (.invokestatic index, 3)) (hf : cells + mc ≤ R.cells ∧ slots + ms ≤ R.slots) :
    vx_Run p l e R s m args below meth c H locs cells slots mc ms g rest (Qc As.toArray) XC free := by
  obtain ⟨⟨hrc, hrs, hfr, hlo, hws, hcw⟩, hcode, hini, hy, hlen, hl, hstt⟩ := cw
  have hK : vx_Back l R p e below s args y 3 8 (PreOf R mc ms Pc) (PostOf Qc mc ms free) (vx_Post XC mc ms free) := vx_backW (hh := hh) (bytes := bytes) (maxL := maxL) (ret := ret) hM hp.1 hrc hrs hfr hlo hws hcw (fun a' U hW => word_at hW (Or.inl (by first | rfl | simp [Cond.onTables, Cond.keeps, Cond.steady])) hini)
  obtain ⟨hx, hb, hml, ho, -⟩ := S
  intro T hT X
  rcases vx_callSX X hx (hh := hh) (bytes := bytes) (maxL := maxL) (ret := ret) ho hl hstt hini hcode hy hK hg (hsize.trans hml.symm) (argsL := As) (rest := rest) (fun sig h => hn.trans (hlen sig h)) hstack hW (by rw [hb]; exact hdg)
    (fun vm₁ hW₁ => ⟨hf.1, hf.2, hp.2 (T.setVm vm₁) hT hW₁⟩) with ⟨v, vm₁, ⟨U', l2, c2, s2⟩, hW₁, X', ⟨g', mk, t, L, e1, e2, hq, h1, hL, h2, h3⟩, st⟩ | ⟨q, vm₁, ⟨U', l2, c2, s2⟩, hW₁, X', ⟨g', mk, t, L, E, ce, e1, e2, hq, hce, hcv, hcl, h1, hL, h2, h3⟩, st⟩
  · dsimp only [Pt.U, Pt.locs, Pt.cells, Pt.slots] at X' e1 e2 h1 h2 h3 st
    subst h1; subst h2; subst h3
    exact Or.inl ⟨v, (T.setVm vm₁).calling g' mk As.toArray, t, U', L, hT, X', hL, e1, e2, hq, st⟩
  · dsimp only [Pt.U, Pt.locs, Pt.cells, Pt.slots] at X' e1 e2 h1 h2 h3 st hcl
    subst h1; subst h2; subst h3
    exact Or.inr ⟨q, (T.setVm vm₁).calling g' mk As.toArray, t, U', L, E, ce, hT, X', hL, e1, e2, hq, hce, hcv, vx_cls hW₁ hcl, st⟩
end
end VXH
theorem vx_ofWH {l : Launch} {y : MethodName} {ws ws' : List Cond} {rm : Room} {Pc : Array Value → State → Prop} {Qc : Array Value → State → Outcome → State → Prop} {XC : String → State → State → Prop} {mc ms : Nat} {free : Addr → Prop} {cc : ByteArray} {maxL : Nat} {ret : Option FieldType} {hh : List (Nat × Nat × Nat × Nat)}
    (hy : plainName y.cls = true) (hw : ws = Cond.codeWith y cc maxL ret hh :: ws')
    (body : ∀ p e s m args below meth c s₁, BodyLoose p l y (headSpec ws rm) cc maxL ret e s m args below meth c s₁ → c.maxLocals = maxL → Pc args s →
      W p l e (headSpec ws rm).room s m args below meth c s.heap [] 0 0 (vx_MQ below Qc XC args s mc ms free) (entryFrame m args maxL)) : vx_Met l y ws rm Pc Qc XC mc ms free := by
  refine MetFree.of_bodyS (code := cc) (maxLocals := maxL) (ret := ret) hy ?_ ?_
  · intro args s m h hn
    obtain ⟨m9, meth, c, hn9, h1, h2, h3, h4, -, h5, h6, -⟩ := Cond.codeWith_spec (atoms_spec (ws := ws) h _ (by rw [hw]; exact List.mem_cons_self))
    cases hn.symm.trans hn9
    exact ⟨meth, c, h1, h2, h3, h4, h5, h6⟩
  · intro p e s m args below meth c s₁ B hml hP _
    have hh0 : s₁.heap = s.heap := by rw [B.state]; rfl
    obtain ⟨t, a1, o, b1, b2, b3⟩ := body p e s m args below meth c s₁ B hml hP s₁ hh0 (Stand.of_body B)
    exact ⟨t, o, a1, b1, b2, b3⟩
/-! ===== END ===== -/
end
section
def RX0 : String := "KitchenSpits$Fire"
def TX0 : u_T := fun k => match k with
  | 0 => ("KitchenSpits$Fire", "logs", "I", false)
  | 1 => ("KitchenSpits$Fire", "heat", "I", false)
  | _ => ("KitchenSpits$Fire", "flares", "I", false)
def tyX0 : Nat → FieldType := fun k => match k with
  | 0 => .int
  | 1 => .int
  | _ => .int
abbrev wsX00 : List Cond := u_ws RX0 TX0 3
theorem nmX0 : ∀ a, a < 3 → ∀ b, b < 3 → a ≠ b → (TX0 a).2.1 ≠ (TX0 b).2.1 := by decide +kernel
theorem tyX0_ok : ∀ k, k < 3 → parseFieldDescriptor (TX0 k).2.2.1 = some (tyX0 k) := by decide +kernel
abbrev cX0_init : ByteArray := prog_2_method_1_code
def yX0_init : MethodName := ⟨RX0, "<init>", "()V"⟩
abbrev cX0_copyFrom : ByteArray := prog_2_method_2_code
def yX0_copyFrom : MethodName := ⟨RX0, "copyFrom", "(LKitchenSpits$Fire;)V"⟩
abbrev cX0_burn : ByteArray := prog_2_method_3_code
def yX0_burn : MethodName := ⟨RX0, "burn", "(I)V"⟩
def RX1 : String := "KitchenSpits$Kitchen"
def TX1 : u_T := fun k => match k with
  | 0 => ("KitchenSpits$Kitchen", "fires", "[LKitchenSpits$Fire;", true)
  | 1 => ("KitchenSpits$Kitchen", "spits", "[LKitchenSpits$Spit;", true)
  | 2 => ("KitchenSpits$Kitchen", "roasts", "[LKitchenSpits$Roast;", true)
  | 3 => ("KitchenSpits$Kitchen", "fireCount", "I", false)
  | 4 => ("KitchenSpits$Kitchen", "spitCount", "I", false)
  | 5 => ("KitchenSpits$Kitchen", "roastCount", "I", false)
  | 6 => ("KitchenSpits$Kitchen", "minute", "I", false)
  | _ => ("KitchenSpits$Kitchen", "feast", "I", false)
def tyX1 : Nat → FieldType := fun k => match k with
  | 0 => .array (.object "KitchenSpits$Fire")
  | 1 => .array (.object "KitchenSpits$Spit")
  | 2 => .array (.object "KitchenSpits$Roast")
  | 3 => .int
  | 4 => .int
  | 5 => .int
  | 6 => .int
  | _ => .int
abbrev wsX10 : List Cond := u_ws RX1 TX1 8
theorem nmX1 : ∀ a, a < 8 → ∀ b, b < 8 → a ≠ b → (TX1 a).2.1 ≠ (TX1 b).2.1 := by decide +kernel
theorem tyX1_ok : ∀ k, k < 8 → parseFieldDescriptor (TX1 k).2.2.1 = some (tyX1 k) := by decide +kernel
abbrev cX1_init : ByteArray := prog_3_method_1_code
def yX1_init : MethodName := ⟨RX1, "<init>", "()V"⟩
abbrev cX1_copyFrom : ByteArray := prog_3_method_2_code
def yX1_copyFrom : MethodName := ⟨RX1, "copyFrom", "(LKitchenSpits$Kitchen;)V"⟩
abbrev cX1_fireAt : ByteArray := prog_3_method_3_code
def yX1_fireAt : MethodName := ⟨RX1, "fireAt", "(I)LKitchenSpits$Fire;"⟩
abbrev cX1_spitAt : ByteArray := prog_3_method_4_code
def yX1_spitAt : MethodName := ⟨RX1, "spitAt", "(I)LKitchenSpits$Spit;"⟩
abbrev cX1_roastAt : ByteArray := prog_3_method_5_code
def yX1_roastAt : MethodName := ⟨RX1, "roastAt", "(I)LKitchenSpits$Roast;"⟩
abbrev cX1_placeFire : ByteArray := prog_3_method_6_code
def yX1_placeFire : MethodName := ⟨RX1, "placeFire", "()I"⟩
abbrev cX1_placeSpit : ByteArray := prog_3_method_7_code
def yX1_placeSpit : MethodName := ⟨RX1, "placeSpit", "(II)I"⟩
abbrev cX1_placeRoast : ByteArray := prog_3_method_8_code
def yX1_placeRoast : MethodName := ⟨RX1, "placeRoast", "(II)I"⟩
abbrev cX1_glowOf : ByteArray := prog_3_method_9_code
def yX1_glowOf : MethodName := ⟨RX1, "glowOf", "(LKitchenSpits$Spit;)I"⟩
abbrev cX1_goMinutes : ByteArray := prog_3_method_10_code
def yX1_goMinutes : MethodName := ⟨RX1, "goMinutes", "(I)I"⟩
abbrev cX1_goMinute : ByteArray := prog_3_method_11_code
def yX1_goMinute : MethodName := ⟨RX1, "goMinute", "()I"⟩
abbrev cX1_roastForAMinute : ByteArray := prog_3_method_12_code
def yX1_roastForAMinute : MethodName := ⟨RX1, "roastForAMinute", "(LKitchenSpits$Spit;)Z"⟩
abbrev cX1_countDone : ByteArray := prog_3_method_13_code
def yX1_countDone : MethodName := ⟨RX1, "countDone", "()I"⟩
abbrev cX1_sumBrown : ByteArray := prog_3_method_14_code
def yX1_sumBrown : MethodName := ⟨RX1, "sumBrown", "()I"⟩
def RX2 : String := "KitchenSpits$Roast"
def TX2 : u_T := fun k => match k with
  | 0 => ("KitchenSpits$Roast", "brown", "[I", true)
  | 1 => ("KitchenSpits$Roast", "pounds", "I", false)
  | 2 => ("KitchenSpits$Roast", "spit", "I", false)
  | 3 => ("KitchenSpits$Roast", "side", "I", false)
  | 4 => ("KitchenSpits$Roast", "fat", "I", false)
  | _ => ("KitchenSpits$Roast", "wet", "I", false)
def tyX2 : Nat → FieldType := fun k => match k with
  | 0 => .array .int
  | 1 => .int
  | 2 => .int
  | 3 => .int
  | 4 => .int
  | _ => .int
abbrev wsX20 : List Cond := u_ws RX2 TX2 6
theorem nmX2 : ∀ a, a < 6 → ∀ b, b < 6 → a ≠ b → (TX2 a).2.1 ≠ (TX2 b).2.1 := by decide +kernel
theorem tyX2_ok : ∀ k, k < 6 → parseFieldDescriptor (TX2 k).2.2.1 = some (tyX2 k) := by decide +kernel
abbrev cX2_init : ByteArray := prog_4_method_1_code
def yX2_init : MethodName := ⟨RX2, "<init>", "()V"⟩
abbrev cX2_copyFrom : ByteArray := prog_4_method_2_code
def yX2_copyFrom : MethodName := ⟨RX2, "copyFrom", "(LKitchenSpits$Roast;)V"⟩
abbrev cX2_getGlow : ByteArray := prog_4_method_3_code
def yX2_getGlow : MethodName := ⟨RX2, "getGlow", "(I)I"⟩
abbrev cX2_getBrowner : ByteArray := prog_4_method_4_code
def yX2_getBrowner : MethodName := ⟨RX2, "getBrowner", "(II)V"⟩
abbrev cX2_drips : ByteArray := prog_4_method_5_code
def yX2_drips : MethodName := ⟨RX2, "drips", "(I)Z"⟩
abbrev cX2_turn : ByteArray := prog_4_method_6_code
def yX2_turn : MethodName := ⟨RX2, "turn", "()V"⟩
abbrev cX2_done : ByteArray := prog_4_method_7_code
def yX2_done : MethodName := ⟨RX2, "done", "()Z"⟩
abbrev cX2_burnt : ByteArray := prog_4_method_8_code
def yX2_burnt : MethodName := ⟨RX2, "burnt", "()Z"⟩
abbrev cX2_nextSide : ByteArray := prog_4_method_9_code
def yX2_nextSide : MethodName := ⟨RX2, "nextSide", "(I)I"⟩
abbrev cX2_sideBefore : ByteArray := prog_4_method_10_code
def yX2_sideBefore : MethodName := ⟨RX2, "sideBefore", "(I)I"⟩
def RX3 : String := "KitchenSpits$Spit"
def TX3 : u_T := fun k => match k with
  | 0 => ("KitchenSpits$Spit", "fire", "I", false)
  | 1 => ("KitchenSpits$Spit", "feet", "I", false)
  | 2 => ("KitchenSpits$Spit", "each", "I", false)
  | 3 => ("KitchenSpits$Spit", "count", "I", false)
  | 4 => ("KitchenSpits$Spit", "drippings", "I", false)
  | _ => ("KitchenSpits$Spit", "roast", "I", false)
def tyX3 : Nat → FieldType := fun k => match k with
  | 0 => .int
  | 1 => .int
  | 2 => .int
  | 3 => .int
  | 4 => .int
  | _ => .int
abbrev wsX30 : List Cond := u_ws RX3 TX3 6
theorem nmX3 : ∀ a, a < 6 → ∀ b, b < 6 → a ≠ b → (TX3 a).2.1 ≠ (TX3 b).2.1 := by decide +kernel
theorem tyX3_ok : ∀ k, k < 6 → parseFieldDescriptor (TX3 k).2.2.1 = some (tyX3 k) := by decide +kernel
abbrev cX3_init : ByteArray := prog_5_method_1_code
def yX3_init : MethodName := ⟨RX3, "<init>", "()V"⟩
abbrev cX3_copyFrom : ByteArray := prog_5_method_2_code
def yX3_copyFrom : MethodName := ⟨RX3, "copyFrom", "(LKitchenSpits$Spit;)V"⟩
abbrev cX3_countAnew : ByteArray := prog_5_method_3_code
def yX3_countAnew : MethodName := ⟨RX3, "countAnew", "(I)V"⟩
abbrev cX3_countsToTurn : ByteArray := prog_5_method_4_code
def yX3_countsToTurn : MethodName := ⟨RX3, "countsToTurn", "()Z"⟩
abbrev cX3_takesDripping : ByteArray := prog_5_method_5_code
def yX3_takesDripping : MethodName := ⟨RX3, "takesDripping", "()Z"⟩
def RX4 : String := "KitchenSpits"
def TX4 : u_T := fun k => match k with
  | 0 => ("KitchenSpits", "now", "LKitchenSpits$Kitchen;", true)
  | _ => ("KitchenSpits", "ahead", "LKitchenSpits$Kitchen;", true)
def tyX4 : Nat → FieldType := fun k => match k with
  | 0 => .object "KitchenSpits$Kitchen"
  | _ => .object "KitchenSpits$Kitchen"
abbrev wsX40 : List Cond := u_ws RX4 TX4 2
theorem nmX4 : ∀ a, a < 2 → ∀ b, b < 2 → a ≠ b → (TX4 a).2.1 ≠ (TX4 b).2.1 := by decide +kernel
theorem tyX4_ok : ∀ k, k < 2 → parseFieldDescriptor (TX4 k).2.2.1 = some (tyX4 k) := by decide +kernel
abbrev cX4_init : ByteArray := prog_1_method_1_code
def yX4_init : MethodName := ⟨RX4, "<init>", "()V"⟩
abbrev cX4_addFire : ByteArray := prog_1_method_2_code
def yX4_addFire : MethodName := ⟨RX4, "addFire", "()I"⟩
abbrev cX4_layLogs : ByteArray := prog_1_method_3_code
def yX4_layLogs : MethodName := ⟨RX4, "layLogs", "(II)I"⟩
abbrev cX4_addSpit : ByteArray := prog_1_method_4_code
def yX4_addSpit : MethodName := ⟨RX4, "addSpit", "(II)I"⟩
abbrev cX4_moveSpit : ByteArray := prog_1_method_5_code
def yX4_moveSpit : MethodName := ⟨RX4, "moveSpit", "(II)I"⟩
abbrev cX4_turnEach : ByteArray := prog_1_method_6_code
def yX4_turnEach : MethodName := ⟨RX4, "turnEach", "(II)I"⟩
abbrev cX4_setFeast : ByteArray := prog_1_method_7_code
def yX4_setFeast : MethodName := ⟨RX4, "setFeast", "(I)I"⟩
abbrev cX4_hang : ByteArray := prog_1_method_8_code
def yX4_hang : MethodName := ⟨RX4, "hang", "(II)I"⟩
abbrev cX4_turnNow : ByteArray := prog_1_method_9_code
def yX4_turnNow : MethodName := ⟨RX4, "turnNow", "(I)I"⟩
abbrev cX4_baste : ByteArray := prog_1_method_10_code
def yX4_baste : MethodName := ⟨RX4, "baste", "(I)I"⟩
abbrev cX4_takeDown : ByteArray := prog_1_method_11_code
def yX4_takeDown : MethodName := ⟨RX4, "takeDown", "(I)I"⟩
abbrev cX4_emptyPan : ByteArray := prog_1_method_12_code
def yX4_emptyPan : MethodName := ⟨RX4, "emptyPan", "(I)I"⟩
abbrev cX4_pass : ByteArray := prog_1_method_13_code
def yX4_pass : MethodName := ⟨RX4, "pass", "(I)I"⟩
abbrev cX4_minute : ByteArray := prog_1_method_14_code
def yX4_minute : MethodName := ⟨RX4, "minute", "()I"⟩
abbrev cX4_feast : ByteArray := prog_1_method_15_code
def yX4_feast : MethodName := ⟨RX4, "feast", "()I"⟩
abbrev cX4_fires : ByteArray := prog_1_method_16_code
def yX4_fires : MethodName := ⟨RX4, "fires", "()I"⟩
abbrev cX4_logsOf : ByteArray := prog_1_method_17_code
def yX4_logsOf : MethodName := ⟨RX4, "logsOf", "(I)I"⟩
abbrev cX4_heatOf : ByteArray := prog_1_method_18_code
def yX4_heatOf : MethodName := ⟨RX4, "heatOf", "(I)I"⟩
abbrev cX4_spits : ByteArray := prog_1_method_19_code
def yX4_spits : MethodName := ⟨RX4, "spits", "()I"⟩
abbrev cX4_fireOf : ByteArray := prog_1_method_20_code
def yX4_fireOf : MethodName := ⟨RX4, "fireOf", "(I)I"⟩
abbrev cX4_feetOf : ByteArray := prog_1_method_21_code
def yX4_feetOf : MethodName := ⟨RX4, "feetOf", "(I)I"⟩
abbrev cX4_glowAt : ByteArray := prog_1_method_22_code
def yX4_glowAt : MethodName := ⟨RX4, "glowAt", "(I)I"⟩
abbrev cX4_turnedEach : ByteArray := prog_1_method_23_code
def yX4_turnedEach : MethodName := ⟨RX4, "turnedEach", "(I)I"⟩
abbrev cX4_drippingsOf : ByteArray := prog_1_method_24_code
def yX4_drippingsOf : MethodName := ⟨RX4, "drippingsOf", "(I)I"⟩
abbrev cX4_roastOn : ByteArray := prog_1_method_25_code
def yX4_roastOn : MethodName := ⟨RX4, "roastOn", "(I)I"⟩
abbrev cX4_roasts : ByteArray := prog_1_method_26_code
def yX4_roasts : MethodName := ⟨RX4, "roasts", "()I"⟩
abbrev cX4_poundsOf : ByteArray := prog_1_method_27_code
def yX4_poundsOf : MethodName := ⟨RX4, "poundsOf", "(I)I"⟩
abbrev cX4_spitOf : ByteArray := prog_1_method_28_code
def yX4_spitOf : MethodName := ⟨RX4, "spitOf", "(I)I"⟩
abbrev cX4_sideToFire : ByteArray := prog_1_method_29_code
def yX4_sideToFire : MethodName := ⟨RX4, "sideToFire", "(I)I"⟩
abbrev cX4_brownOf : ByteArray := prog_1_method_30_code
def yX4_brownOf : MethodName := ⟨RX4, "brownOf", "(II)I"⟩
abbrev cX4_fatOf : ByteArray := prog_1_method_31_code
def yX4_fatOf : MethodName := ⟨RX4, "fatOf", "(I)I"⟩
abbrev cX4_wetFor : ByteArray := prog_1_method_32_code
def yX4_wetFor : MethodName := ⟨RX4, "wetFor", "(I)I"⟩
abbrev cX4_isDone : ByteArray := prog_1_method_33_code
def yX4_isDone : MethodName := ⟨RX4, "isDone", "(I)Z"⟩
abbrev cX4_isBurnt : ByteArray := prog_1_method_34_code
def yX4_isBurnt : MethodName := ⟨RX4, "isBurnt", "(I)Z"⟩
abbrev cX4_minutesUntilDone : ByteArray := prog_1_method_35_code
def yX4_minutesUntilDone : MethodName := ⟨RX4, "minutesUntilDone", "(I)I"⟩
abbrev cX4_minutesUntilBurnt : ByteArray := prog_1_method_36_code
def yX4_minutesUntilBurnt : MethodName := ⟨RX4, "minutesUntilBurnt", "(I)I"⟩
abbrev cX4_doneAtFeast : ByteArray := prog_1_method_37_code
def yX4_doneAtFeast : MethodName := ⟨RX4, "doneAtFeast", "()I"⟩
abbrev cX4_bestEach : ByteArray := prog_1_method_38_code
def yX4_bestEach : MethodName := ⟨RX4, "bestEach", "(I)I"⟩
abbrev cX4_bestSpit : ByteArray := prog_1_method_39_code
def yX4_bestSpit : MethodName := ⟨RX4, "bestSpit", "(I)I"⟩
abbrev cX4_meanBrown : ByteArray := prog_1_method_40_code
def yX4_meanBrown : MethodName := ⟨RX4, "meanBrown", "()D"⟩
abbrev cX4_digest : ByteArray := prog_1_method_41_code
def yX4_digest : MethodName := ⟨RX4, "digest", "()J"⟩
abbrev cX4_needFire : ByteArray := prog_1_method_42_code
def yX4_needFire : MethodName := ⟨RX4, "needFire", "(I)LKitchenSpits$Fire;"⟩
abbrev cX4_needSpit : ByteArray := prog_1_method_43_code
def yX4_needSpit : MethodName := ⟨RX4, "needSpit", "(I)LKitchenSpits$Spit;"⟩
abbrev cX4_needRoast : ByteArray := prog_1_method_44_code
def yX4_needRoast : MethodName := ⟨RX4, "needRoast", "(I)LKitchenSpits$Roast;"⟩
abbrev cX4_needRoastOf : ByteArray := prog_1_method_45_code
def yX4_needRoastOf : MethodName := ⟨RX4, "needRoastOf", "(LKitchenSpits$Spit;)LKitchenSpits$Roast;"⟩
abbrev cX4_needFeet : ByteArray := prog_1_method_46_code
def yX4_needFeet : MethodName := ⟨RX4, "needFeet", "(I)V"⟩
abbrev cX4_needPounds : ByteArray := prog_1_method_47_code
def yX4_needPounds : MethodName := ⟨RX4, "needPounds", "(I)V"⟩
abbrev cX4_aheadUntilDone : ByteArray := prog_1_method_48_code
def yX4_aheadUntilDone : MethodName := ⟨RX4, "aheadUntilDone", "(I)I"⟩
abbrev cX4_aheadUntilBurnt : ByteArray := prog_1_method_49_code
def yX4_aheadUntilBurnt : MethodName := ⟨RX4, "aheadUntilBurnt", "(I)I"⟩
abbrev cX4_untilDoneTurnedEach : ByteArray := prog_1_method_50_code
def yX4_untilDoneTurnedEach : MethodName := ⟨RX4, "untilDoneTurnedEach", "(II)I"⟩
abbrev cX4_untilDoneHungOn : ByteArray := prog_1_method_51_code
def yX4_untilDoneHungOn : MethodName := ⟨RX4, "untilDoneHungOn", "(II)I"⟩
abbrev cX4_mix : ByteArray := prog_1_method_52_code
def yX4_mix : MethodName := ⟨RX4, "mix", "(JJ)J"⟩
abbrev cX4_mixFires : ByteArray := prog_1_method_53_code
def yX4_mixFires : MethodName := ⟨RX4, "mixFires", "(J)J"⟩
abbrev cX4_mixSpits : ByteArray := prog_1_method_54_code
def yX4_mixSpits : MethodName := ⟨RX4, "mixSpits", "(J)J"⟩
abbrev cX4_mixRoasts : ByteArray := prog_1_method_55_code
def yX4_mixRoasts : MethodName := ⟨RX4, "mixRoasts", "(J)J"⟩
def RX5 : String := "KitchenSpitsModel"
def TX5 : u_T := fun k => match k with
  | 0 => ("KitchenSpitsModel", "thrown", "I", false)
  | 1 => ("KitchenSpitsModel", "fires", "I", false)
  | 2 => ("KitchenSpitsModel", "spits", "I", false)
  | 3 => ("KitchenSpitsModel", "roasts", "I", false)
  | 4 => ("KitchenSpitsModel", "feast", "I", false)
  | 5 => ("KitchenSpitsModel", "place", "[I", true)
  | 6 => ("KitchenSpitsModel", "pounds", "[I", true)
  | 7 => ("KitchenSpitsModel", "got", "[I", true)
  | 8 => ("KitchenSpitsModel", "flares", "[I", true)
  | 9 => ("KitchenSpitsModel", "now", "[I", true)
  | _ => ("KitchenSpitsModel", "kept", "[I", true)
def tyX5 : Nat → FieldType := fun k => match k with
  | 0 => .int
  | 1 => .int
  | 2 => .int
  | 3 => .int
  | 4 => .int
  | 5 => .array .int
  | 6 => .array .int
  | 7 => .array .int
  | 8 => .array .int
  | 9 => .array .int
  | _ => .array .int
abbrev wsX50 : List Cond := u_ws RX5 TX5 11
theorem nmX5 : ∀ a, a < 11 → ∀ b, b < 11 → a ≠ b → (TX5 a).2.1 ≠ (TX5 b).2.1 := by decide +kernel
theorem tyX5_ok : ∀ k, k < 11 → parseFieldDescriptor (TX5 k).2.2.1 = some (tyX5 k) := by decide +kernel
abbrev cX5_init : ByteArray := prog_7_method_1_code
def yX5_init : MethodName := ⟨RX5, "<init>", "()V"⟩
abbrev cX5_thrown : ByteArray := prog_7_method_2_code
def yX5_thrown : MethodName := ⟨RX5, "thrown", "()I"⟩
abbrev cX5_fail : ByteArray := prog_7_method_3_code
def yX5_fail : MethodName := ⟨RX5, "fail", "(I)I"⟩
abbrev cX5_told : ByteArray := prog_7_method_4_code
def yX5_told : MethodName := ⟨RX5, "told", "(I)I"⟩
abbrev cX5_isIn : ByteArray := prog_7_method_5_code
def yX5_isIn : MethodName := ⟨RX5, "isIn", "(III)Z"⟩
abbrev cX5_isFire : ByteArray := prog_7_method_6_code
def yX5_isFire : MethodName := ⟨RX5, "isFire", "(I)Z"⟩
abbrev cX5_isSpit : ByteArray := prog_7_method_7_code
def yX5_isSpit : MethodName := ⟨RX5, "isSpit", "(I)Z"⟩
abbrev cX5_isRoast : ByteArray := prog_7_method_8_code
def yX5_isRoast : MethodName := ⟨RX5, "isRoast", "(I)Z"⟩
abbrev cX5_fi : ByteArray := prog_7_method_9_code
def yX5_fi : MethodName := ⟨RX5, "fi", "(II)I"⟩
abbrev cX5_letFire : ByteArray := prog_7_method_10_code
def yX5_letFire : MethodName := ⟨RX5, "letFire", "(III)V"⟩
abbrev cX5_sp : ByteArray := prog_7_method_11_code
def yX5_sp : MethodName := ⟨RX5, "sp", "(II)I"⟩
abbrev cX5_letSpit : ByteArray := prog_7_method_12_code
def yX5_letSpit : MethodName := ⟨RX5, "letSpit", "(III)V"⟩
abbrev cX5_ro : ByteArray := prog_7_method_13_code
def yX5_ro : MethodName := ⟨RX5, "ro", "(II)I"⟩
abbrev cX5_let : ByteArray := prog_7_method_14_code
def yX5_let : MethodName := ⟨RX5, "let", "(III)V"⟩
abbrev cX5_keep : ByteArray := prog_7_method_15_code
def yX5_keep : MethodName := ⟨RX5, "keep", "()V"⟩
abbrev cX5_bringBack : ByteArray := prog_7_method_16_code
def yX5_bringBack : MethodName := ⟨RX5, "bringBack", "()V"⟩
abbrev cX5_glow : ByteArray := prog_7_method_17_code
def yX5_glow : MethodName := ⟨RX5, "glow", "(I)I"⟩
abbrev cX5_most : ByteArray := prog_7_method_18_code
def yX5_most : MethodName := ⟨RX5, "most", "(I)I"⟩
abbrev cX5_done : ByteArray := prog_7_method_19_code
def yX5_done : MethodName := ⟨RX5, "done", "(I)Z"⟩
abbrev cX5_burnt : ByteArray := prog_7_method_20_code
def yX5_burnt : MethodName := ⟨RX5, "burnt", "(I)Z"⟩
abbrev cX5_tan : ByteArray := prog_7_method_21_code
def yX5_tan : MethodName := ⟨RX5, "tan", "(III)V"⟩
abbrev cX5_roasted : ByteArray := prog_7_method_22_code
def yX5_roasted : MethodName := ⟨RX5, "roasted", "(II)V"⟩
abbrev cX5_drip : ByteArray := prog_7_method_23_code
def yX5_drip : MethodName := ⟨RX5, "drip", "(II)V"⟩
abbrev cX5_turn : ByteArray := prog_7_method_24_code
def yX5_turn : MethodName := ⟨RX5, "turn", "(I)V"⟩
abbrev cX5_minuteOn : ByteArray := prog_7_method_25_code
def yX5_minuteOn : MethodName := ⟨RX5, "minuteOn", "()I"⟩
abbrev cX5_addFire : ByteArray := prog_7_method_26_code
def yX5_addFire : MethodName := ⟨RX5, "addFire", "()I"⟩
abbrev cX5_layLogs : ByteArray := prog_7_method_27_code
def yX5_layLogs : MethodName := ⟨RX5, "layLogs", "(II)I"⟩
abbrev cX5_addSpit : ByteArray := prog_7_method_28_code
def yX5_addSpit : MethodName := ⟨RX5, "addSpit", "(II)I"⟩
abbrev cX5_moveSpit : ByteArray := prog_7_method_29_code
def yX5_moveSpit : MethodName := ⟨RX5, "moveSpit", "(II)I"⟩
abbrev cX5_each : ByteArray := prog_7_method_30_code
def yX5_each : MethodName := ⟨RX5, "each", "(II)V"⟩
abbrev cX5_turnEach : ByteArray := prog_7_method_31_code
def yX5_turnEach : MethodName := ⟨RX5, "turnEach", "(II)I"⟩
abbrev cX5_setFeast : ByteArray := prog_7_method_32_code
def yX5_setFeast : MethodName := ⟨RX5, "setFeast", "(I)I"⟩
abbrev cX5_hangNext : ByteArray := prog_7_method_33_code
def yX5_hangNext : MethodName := ⟨RX5, "hangNext", "(II)V"⟩
abbrev cX5_hang : ByteArray := prog_7_method_34_code
def yX5_hang : MethodName := ⟨RX5, "hang", "(II)I"⟩
abbrev cX5_holds : ByteArray := prog_7_method_35_code
def yX5_holds : MethodName := ⟨RX5, "holds", "(I)Z"⟩
abbrev cX5_turnNow : ByteArray := prog_7_method_36_code
def yX5_turnNow : MethodName := ⟨RX5, "turnNow", "(I)I"⟩
abbrev cX5_baste : ByteArray := prog_7_method_37_code
def yX5_baste : MethodName := ⟨RX5, "baste", "(I)I"⟩
abbrev cX5_takeDown : ByteArray := prog_7_method_38_code
def yX5_takeDown : MethodName := ⟨RX5, "takeDown", "(I)I"⟩
abbrev cX5_emptyPan : ByteArray := prog_7_method_39_code
def yX5_emptyPan : MethodName := ⟨RX5, "emptyPan", "(I)I"⟩
abbrev cX5_pass : ByteArray := prog_7_method_40_code
def yX5_pass : MethodName := ⟨RX5, "pass", "(I)I"⟩
abbrev cX5_minute : ByteArray := prog_7_method_41_code
def yX5_minute : MethodName := ⟨RX5, "minute", "()I"⟩
abbrev cX5_feast : ByteArray := prog_7_method_42_code
def yX5_feast : MethodName := ⟨RX5, "feast", "()I"⟩
abbrev cX5_fires : ByteArray := prog_7_method_43_code
def yX5_fires : MethodName := ⟨RX5, "fires", "()I"⟩
abbrev cX5_fire : ByteArray := prog_7_method_44_code
def yX5_fire : MethodName := ⟨RX5, "fire", "(II)I"⟩
abbrev cX5_logsOf : ByteArray := prog_7_method_45_code
def yX5_logsOf : MethodName := ⟨RX5, "logsOf", "(I)I"⟩
abbrev cX5_heatOf : ByteArray := prog_7_method_46_code
def yX5_heatOf : MethodName := ⟨RX5, "heatOf", "(I)I"⟩
abbrev cX5_spits : ByteArray := prog_7_method_47_code
def yX5_spits : MethodName := ⟨RX5, "spits", "()I"⟩
abbrev cX5_fireOf : ByteArray := prog_7_method_48_code
def yX5_fireOf : MethodName := ⟨RX5, "fireOf", "(I)I"⟩
abbrev cX5_spit : ByteArray := prog_7_method_49_code
def yX5_spit : MethodName := ⟨RX5, "spit", "(II)I"⟩
abbrev cX5_feetOf : ByteArray := prog_7_method_50_code
def yX5_feetOf : MethodName := ⟨RX5, "feetOf", "(I)I"⟩
abbrev cX5_glowAt : ByteArray := prog_7_method_51_code
def yX5_glowAt : MethodName := ⟨RX5, "glowAt", "(I)I"⟩
abbrev cX5_turnedEach : ByteArray := prog_7_method_52_code
def yX5_turnedEach : MethodName := ⟨RX5, "turnedEach", "(I)I"⟩
abbrev cX5_drippingsOf : ByteArray := prog_7_method_53_code
def yX5_drippingsOf : MethodName := ⟨RX5, "drippingsOf", "(I)I"⟩
abbrev cX5_roastOn : ByteArray := prog_7_method_54_code
def yX5_roastOn : MethodName := ⟨RX5, "roastOn", "(I)I"⟩
abbrev cX5_roasts : ByteArray := prog_7_method_55_code
def yX5_roasts : MethodName := ⟨RX5, "roasts", "()I"⟩
abbrev cX5_poundsOf : ByteArray := prog_7_method_56_code
def yX5_poundsOf : MethodName := ⟨RX5, "poundsOf", "(I)I"⟩
abbrev cX5_roast : ByteArray := prog_7_method_57_code
def yX5_roast : MethodName := ⟨RX5, "roast", "(II)I"⟩
abbrev cX5_spitOf : ByteArray := prog_7_method_58_code
def yX5_spitOf : MethodName := ⟨RX5, "spitOf", "(I)I"⟩
abbrev cX5_sideToFire : ByteArray := prog_7_method_59_code
def yX5_sideToFire : MethodName := ⟨RX5, "sideToFire", "(I)I"⟩
abbrev cX5_brownOf : ByteArray := prog_7_method_60_code
def yX5_brownOf : MethodName := ⟨RX5, "brownOf", "(II)I"⟩
abbrev cX5_fatOf : ByteArray := prog_7_method_61_code
def yX5_fatOf : MethodName := ⟨RX5, "fatOf", "(I)I"⟩
abbrev cX5_wetFor : ByteArray := prog_7_method_62_code
def yX5_wetFor : MethodName := ⟨RX5, "wetFor", "(I)I"⟩
abbrev cX5_isDone : ByteArray := prog_7_method_63_code
def yX5_isDone : MethodName := ⟨RX5, "isDone", "(I)Z"⟩
abbrev cX5_isBurnt : ByteArray := prog_7_method_64_code
def yX5_isBurnt : MethodName := ⟨RX5, "isBurnt", "(I)Z"⟩
abbrev cX5_until : ByteArray := prog_7_method_65_code
def yX5_until : MethodName := ⟨RX5, "until", "(IZ)I"⟩
abbrev cX5_minutesUntilDone : ByteArray := prog_7_method_66_code
def yX5_minutesUntilDone : MethodName := ⟨RX5, "minutesUntilDone", "(I)I"⟩
abbrev cX5_minutesUntilBurnt : ByteArray := prog_7_method_67_code
def yX5_minutesUntilBurnt : MethodName := ⟨RX5, "minutesUntilBurnt", "(I)I"⟩
abbrev cX5_doneAtFeast : ByteArray := prog_7_method_68_code
def yX5_doneAtFeast : MethodName := ⟨RX5, "doneAtFeast", "()I"⟩
abbrev cX5_bestEach : ByteArray := prog_7_method_69_code
def yX5_bestEach : MethodName := ⟨RX5, "bestEach", "(I)I"⟩
abbrev cX5_bestSpit : ByteArray := prog_7_method_70_code
def yX5_bestSpit : MethodName := ⟨RX5, "bestSpit", "(I)I"⟩
abbrev cX5_meanBrown : ByteArray := prog_7_method_71_code
def yX5_meanBrown : MethodName := ⟨RX5, "meanBrown", "()D"⟩
abbrev cX5_digest : ByteArray := prog_7_method_72_code
def yX5_digest : MethodName := ⟨RX5, "digest", "()J"⟩
def RJ9 : String := "java/lang/Math"
def TJ9 : u_T := fun k => match k with
  | _ => ("", "", "", false)
def tyJ9 : Nat → FieldType := fun k => match k with
  | _ => .int
abbrev wsJ90 : List Cond := u_ws RJ9 TJ9 0
theorem nmJ9 : ∀ a, a < 0 → ∀ b, b < 0 → a ≠ b → (TJ9 a).2.1 ≠ (TJ9 b).2.1 := by decide +kernel
theorem tyJ9_ok : ∀ k, k < 0 → parseFieldDescriptor (TJ9 k).2.2.1 = some (tyJ9 k) := by decide +kernel
abbrev cJ9_max_7cf53 : ByteArray := prog_12_method_65_code
def yJ9_max_7cf53 : MethodName := ⟨RJ9, "max", "(II)I"⟩
abbrev cJ9_min_7cf53 : ByteArray := prog_12_method_69_code
def yJ9_min_7cf53 : MethodName := ⟨RJ9, "min", "(II)I"⟩
def RJ0 : String := "java/lang/String"
def TJ0 : u_T := fun k => match k with
  | _ => ("", "", "", false)
def tyJ0 : Nat → FieldType := fun k => match k with
  | _ => .int
abbrev wsJ00 : List Cond := u_ws RJ0 TJ0 0
theorem nmJ0 : ∀ a, a < 0 → ∀ b, b < 0 → a ≠ b → (TJ0 a).2.1 ≠ (TJ0 b).2.1 := by decide +kernel
theorem tyJ0_ok : ∀ k, k < 0 → parseFieldDescriptor (TJ0 k).2.2.1 = some (tyJ0 k) := by decide +kernel
def RJ10 : String := "java/lang/System"
def TJ10 : u_T := fun k => match k with
  | _ => ("", "", "", false)
def tyJ10 : Nat → FieldType := fun k => match k with
  | _ => .int
abbrev wsJ100 : List Cond := u_ws RJ10 TJ10 0
theorem nmJ10 : ∀ a, a < 0 → ∀ b, b < 0 → a ≠ b → (TJ10 a).2.1 ≠ (TJ10 b).2.1 := by decide +kernel
theorem tyJ10_ok : ∀ k, k < 0 → parseFieldDescriptor (TJ10 k).2.2.1 = some (tyJ10 k) := by decide +kernel
def RL : String := "KitchenSpitsLaw"
abbrev cL_addFire : ByteArray := method_3_code
def yL_addFire : MethodName := ⟨RL, "addFire", "(LKitchenSpits;[J)I"⟩
abbrev cL_layLogs : ByteArray := method_4_code
def yL_layLogs : MethodName := ⟨RL, "layLogs", "(LKitchenSpits;II[J)I"⟩
abbrev cL_addSpit : ByteArray := method_5_code
def yL_addSpit : MethodName := ⟨RL, "addSpit", "(LKitchenSpits;II[J)I"⟩
abbrev cL_moveSpit : ByteArray := method_6_code
def yL_moveSpit : MethodName := ⟨RL, "moveSpit", "(LKitchenSpits;II[J)I"⟩
abbrev cL_turnEach : ByteArray := method_7_code
def yL_turnEach : MethodName := ⟨RL, "turnEach", "(LKitchenSpits;II[J)I"⟩
abbrev cL_setFeast : ByteArray := method_8_code
def yL_setFeast : MethodName := ⟨RL, "setFeast", "(LKitchenSpits;I[J)I"⟩
abbrev cL_hang : ByteArray := method_9_code
def yL_hang : MethodName := ⟨RL, "hang", "(LKitchenSpits;II[J)I"⟩
abbrev cL_turnNow : ByteArray := method_10_code
def yL_turnNow : MethodName := ⟨RL, "turnNow", "(LKitchenSpits;I[J)I"⟩
abbrev cL_baste : ByteArray := method_11_code
def yL_baste : MethodName := ⟨RL, "baste", "(LKitchenSpits;I[J)I"⟩
abbrev cL_takeDown : ByteArray := method_12_code
def yL_takeDown : MethodName := ⟨RL, "takeDown", "(LKitchenSpits;I[J)I"⟩
abbrev cL_emptyPan : ByteArray := method_13_code
def yL_emptyPan : MethodName := ⟨RL, "emptyPan", "(LKitchenSpits;I[J)I"⟩
abbrev cL_pass : ByteArray := method_14_code
def yL_pass : MethodName := ⟨RL, "pass", "(LKitchenSpits;I[J)I"⟩
abbrev cL_logsOf : ByteArray := method_15_code
def yL_logsOf : MethodName := ⟨RL, "logsOf", "(LKitchenSpits;I[J)I"⟩
abbrev cL_heatOf : ByteArray := method_16_code
def yL_heatOf : MethodName := ⟨RL, "heatOf", "(LKitchenSpits;I[J)I"⟩
abbrev cL_fireOf : ByteArray := method_17_code
def yL_fireOf : MethodName := ⟨RL, "fireOf", "(LKitchenSpits;I[J)I"⟩
abbrev cL_feetOf : ByteArray := method_18_code
def yL_feetOf : MethodName := ⟨RL, "feetOf", "(LKitchenSpits;I[J)I"⟩
abbrev cL_glowAt : ByteArray := method_19_code
def yL_glowAt : MethodName := ⟨RL, "glowAt", "(LKitchenSpits;I[J)I"⟩
abbrev cL_turnedEach : ByteArray := method_20_code
def yL_turnedEach : MethodName := ⟨RL, "turnedEach", "(LKitchenSpits;I[J)I"⟩
abbrev cL_drippingsOf : ByteArray := method_21_code
def yL_drippingsOf : MethodName := ⟨RL, "drippingsOf", "(LKitchenSpits;I[J)I"⟩
abbrev cL_roastOn : ByteArray := method_22_code
def yL_roastOn : MethodName := ⟨RL, "roastOn", "(LKitchenSpits;I[J)I"⟩
abbrev cL_poundsOf : ByteArray := method_23_code
def yL_poundsOf : MethodName := ⟨RL, "poundsOf", "(LKitchenSpits;I[J)I"⟩
abbrev cL_spitOf : ByteArray := method_24_code
def yL_spitOf : MethodName := ⟨RL, "spitOf", "(LKitchenSpits;I[J)I"⟩
abbrev cL_sideToFire : ByteArray := method_25_code
def yL_sideToFire : MethodName := ⟨RL, "sideToFire", "(LKitchenSpits;I[J)I"⟩
abbrev cL_brownOf : ByteArray := method_26_code
def yL_brownOf : MethodName := ⟨RL, "brownOf", "(LKitchenSpits;II[J)I"⟩
abbrev cL_fatOf : ByteArray := method_27_code
def yL_fatOf : MethodName := ⟨RL, "fatOf", "(LKitchenSpits;I[J)I"⟩
abbrev cL_wetFor : ByteArray := method_28_code
def yL_wetFor : MethodName := ⟨RL, "wetFor", "(LKitchenSpits;I[J)I"⟩
abbrev cL_isDone : ByteArray := method_29_code
def yL_isDone : MethodName := ⟨RL, "isDone", "(LKitchenSpits;I[J)I"⟩
abbrev cL_isBurnt : ByteArray := method_30_code
def yL_isBurnt : MethodName := ⟨RL, "isBurnt", "(LKitchenSpits;I[J)I"⟩
abbrev cL_minutesUntilDone : ByteArray := method_31_code
def yL_minutesUntilDone : MethodName := ⟨RL, "minutesUntilDone", "(LKitchenSpits;I[J)I"⟩
abbrev cL_minutesUntilBurnt : ByteArray := method_32_code
def yL_minutesUntilBurnt : MethodName := ⟨RL, "minutesUntilBurnt", "(LKitchenSpits;I[J)I"⟩
abbrev cL_bestEach : ByteArray := method_33_code
def yL_bestEach : MethodName := ⟨RL, "bestEach", "(LKitchenSpits;I[J)I"⟩
abbrev cL_bestSpit : ByteArray := method_34_code
def yL_bestSpit : MethodName := ⟨RL, "bestSpit", "(LKitchenSpits;I[J)I"⟩
abbrev cL_law : ByteArray := code
def yL_law : MethodName := ⟨RL, "law", "([I)Z"⟩
abbrev vwCl : List vw_C := [(RX0, TX0, 3), (RX1, TX1, 8), (RX2, TX2, 6), (RX3, TX3, 6), (RX4, TX4, 2), (RX5, TX5, 11)]
end
section
theorem dX0_init_0 : decode cX0_init 0 = .ok (.aload_n 0, 1) := by decide +kernel
theorem dX0_init_1 : decode cX0_init 1 = .ok (.invokespecial 3, 3) := by decide +kernel
theorem dX0_init_4 : decode cX0_init 4 = .ok (.return_, 1) := by decide +kernel
theorem dX0_copyFrom_0 : decode cX0_copyFrom 0 = .ok (.aload_n 0, 1) := by decide +kernel
theorem dX0_copyFrom_1 : decode cX0_copyFrom 1 = .ok (.aload_n 1, 1) := by decide +kernel
theorem dX0_copyFrom_2 : decode cX0_copyFrom 2 = .ok (.getfield 9, 3) := by decide +kernel
theorem dX0_copyFrom_5 : decode cX0_copyFrom 5 = .ok (.putfield 9, 3) := by decide +kernel
theorem dX0_copyFrom_8 : decode cX0_copyFrom 8 = .ok (.aload_n 0, 1) := by decide +kernel
theorem dX0_copyFrom_9 : decode cX0_copyFrom 9 = .ok (.aload_n 1, 1) := by decide +kernel
theorem dX0_copyFrom_10 : decode cX0_copyFrom 10 = .ok (.getfield 15, 3) := by decide +kernel
theorem dX0_copyFrom_13 : decode cX0_copyFrom 13 = .ok (.putfield 15, 3) := by decide +kernel
theorem dX0_copyFrom_16 : decode cX0_copyFrom 16 = .ok (.aload_n 0, 1) := by decide +kernel
theorem dX0_copyFrom_17 : decode cX0_copyFrom 17 = .ok (.aload_n 1, 1) := by decide +kernel
theorem dX0_copyFrom_18 : decode cX0_copyFrom 18 = .ok (.getfield 18, 3) := by decide +kernel
theorem dX0_copyFrom_21 : decode cX0_copyFrom 21 = .ok (.putfield 18, 3) := by decide +kernel
theorem dX0_copyFrom_24 : decode cX0_copyFrom 24 = .ok (.return_, 1) := by decide +kernel
theorem dX0_burn_0 : decode cX0_burn 0 = .ok (.aload_n 0, 1) := by decide +kernel
theorem dX0_burn_1 : decode cX0_burn 1 = .ok (.getfield 18, 3) := by decide +kernel
theorem dX0_burn_4 : decode cX0_burn 4 = .ok (.aload_n 0, 1) := by decide +kernel
theorem dX0_burn_5 : decode cX0_burn 5 = .ok (.getfield 9, 3) := by decide +kernel
theorem dX0_burn_8 : decode cX0_burn 8 = .ok (.ifCond .le 7, 3) := by decide +kernel
theorem dX0_burn_11 : decode cX0_burn 11 = .ok (.iconst 1, 1) := by decide +kernel
theorem dX0_burn_12 : decode cX0_burn 12 = .ok (.goto 4, 3) := by decide +kernel
theorem dX0_burn_15 : decode cX0_burn 15 = .ok (.iconst (-1), 1) := by decide +kernel
theorem dX0_burn_16 : decode cX0_burn 16 = .ok (.iadd, 1) := by decide +kernel
theorem dX0_burn_17 : decode cX0_burn 17 = .ok (.istore_n 2, 1) := by decide +kernel
theorem dX0_burn_18 : decode cX0_burn 18 = .ok (.aload_n 0, 1) := by decide +kernel
theorem dX0_burn_19 : decode cX0_burn 19 = .ok (.getfield 9, 3) := by decide +kernel
theorem dX0_burn_22 : decode cX0_burn 22 = .ok (.ifCond .le 19, 3) := by decide +kernel
theorem dX0_burn_25 : decode cX0_burn 25 = .ok (.iload_n 1, 1) := by decide +kernel
theorem dX0_burn_26 : decode cX0_burn 26 = .ok (.iconst 5, 1) := by decide +kernel
theorem dX0_burn_27 : decode cX0_burn 27 = .ok (.irem, 1) := by decide +kernel
theorem dX0_burn_28 : decode cX0_burn 28 = .ok (.ifCond .ne 13, 3) := by decide +kernel
theorem dX0_burn_31 : decode cX0_burn 31 = .ok (.aload_n 0, 1) := by decide +kernel
theorem dX0_burn_32 : decode cX0_burn 32 = .ok (.dup, 1) := by decide +kernel
theorem dX0_burn_33 : decode cX0_burn 33 = .ok (.getfield 9, 3) := by decide +kernel
theorem dX0_burn_36 : decode cX0_burn 36 = .ok (.iconst 1, 1) := by decide +kernel
theorem dX0_burn_37 : decode cX0_burn 37 = .ok (.isub, 1) := by decide +kernel
theorem dX0_burn_38 : decode cX0_burn 38 = .ok (.putfield 9, 3) := by decide +kernel
theorem dX0_burn_41 : decode cX0_burn 41 = .ok (.aload_n 0, 1) := by decide +kernel
theorem dX0_burn_42 : decode cX0_burn 42 = .ok (.iconst 0, 1) := by decide +kernel
theorem dX0_burn_43 : decode cX0_burn 43 = .ok (.bipush 9, 2) := by decide +kernel
theorem dX0_burn_45 : decode cX0_burn 45 = .ok (.aload_n 0, 1) := by decide +kernel
theorem dX0_burn_46 : decode cX0_burn 46 = .ok (.getfield 15, 3) := by decide +kernel
theorem dX0_burn_49 : decode cX0_burn 49 = .ok (.iload_n 2, 1) := by decide +kernel
theorem dX0_burn_50 : decode cX0_burn 50 = .ok (.iadd, 1) := by decide +kernel
theorem dX0_burn_51 : decode cX0_burn 51 = .ok (.invokestatic 21, 3) := by decide +kernel
theorem dX0_burn_54 : decode cX0_burn 54 = .ok (.invokestatic 27, 3) := by decide +kernel
theorem dX0_burn_57 : decode cX0_burn 57 = .ok (.putfield 15, 3) := by decide +kernel
theorem dX0_burn_60 : decode cX0_burn 60 = .ok (.aload_n 0, 1) := by decide +kernel
theorem dX0_burn_61 : decode cX0_burn 61 = .ok (.iconst 0, 1) := by decide +kernel
theorem dX0_burn_62 : decode cX0_burn 62 = .ok (.putfield 18, 3) := by decide +kernel
theorem dX0_burn_65 : decode cX0_burn 65 = .ok (.return_, 1) := by decide +kernel
theorem dX1_init_0 : decode cX1_init 0 = .ok (.aload_n 0, 1) := by decide +kernel
theorem dX1_init_1 : decode cX1_init 1 = .ok (.invokespecial 3, 3) := by decide +kernel
theorem dX1_init_4 : decode cX1_init 4 = .ok (.aload_n 0, 1) := by decide +kernel
theorem dX1_init_5 : decode cX1_init 5 = .ok (.iconst 3, 1) := by decide +kernel
theorem dX1_init_6 : decode cX1_init 6 = .ok (.anewarray 9, 3) := by decide +kernel
theorem dX1_init_9 : decode cX1_init 9 = .ok (.putfield 11, 3) := by decide +kernel
theorem dX1_init_12 : decode cX1_init 12 = .ok (.aload_n 0, 1) := by decide +kernel
theorem dX1_init_13 : decode cX1_init 13 = .ok (.bipush 6, 2) := by decide +kernel
theorem dX1_init_15 : decode cX1_init 15 = .ok (.anewarray 17, 3) := by decide +kernel
theorem dX1_init_18 : decode cX1_init 18 = .ok (.putfield 19, 3) := by decide +kernel
theorem dX1_init_21 : decode cX1_init 21 = .ok (.aload_n 0, 1) := by decide +kernel
theorem dX1_init_22 : decode cX1_init 22 = .ok (.bipush 16, 2) := by decide +kernel
theorem dX1_init_24 : decode cX1_init 24 = .ok (.anewarray 23, 3) := by decide +kernel
theorem dX1_init_27 : decode cX1_init 27 = .ok (.putfield 25, 3) := by decide +kernel
theorem dX1_init_30 : decode cX1_init 30 = .ok (.aload_n 0, 1) := by decide +kernel
theorem dX1_init_31 : decode cX1_init 31 = .ok (.bipush 120, 2) := by decide +kernel
theorem dX1_init_33 : decode cX1_init 33 = .ok (.putfield 29, 3) := by decide +kernel
theorem dX1_init_36 : decode cX1_init 36 = .ok (.iconst 0, 1) := by decide +kernel
theorem dX1_init_37 : decode cX1_init 37 = .ok (.istore_n 1, 1) := by decide +kernel
theorem dX1_init_38 : decode cX1_init 38 = .ok (.iload_n 1, 1) := by decide +kernel
theorem dX1_init_39 : decode cX1_init 39 = .ok (.aload_n 0, 1) := by decide +kernel
theorem dX1_init_40 : decode cX1_init 40 = .ok (.getfield 11, 3) := by decide +kernel
theorem dX1_init_43 : decode cX1_init 43 = .ok (.arraylength, 1) := by decide +kernel
theorem dX1_init_44 : decode cX1_init 44 = .ok (.if_icmp .ge 22, 3) := by decide +kernel
theorem dX1_init_47 : decode cX1_init 47 = .ok (.aload_n 0, 1) := by decide +kernel
theorem dX1_init_48 : decode cX1_init 48 = .ok (.getfield 11, 3) := by decide +kernel
theorem dX1_init_51 : decode cX1_init 51 = .ok (.iload_n 1, 1) := by decide +kernel
theorem dX1_init_52 : decode cX1_init 52 = .ok (.new 9, 3) := by decide +kernel
theorem dX1_init_55 : decode cX1_init 55 = .ok (.dup, 1) := by decide +kernel
theorem dX1_init_56 : decode cX1_init 56 = .ok (.invokespecial 33, 3) := by decide +kernel
theorem dX1_init_59 : decode cX1_init 59 = .ok (.aastore, 1) := by decide +kernel
theorem dX1_init_60 : decode cX1_init 60 = .ok (.iinc 1 1, 3) := by decide +kernel
theorem dX1_init_63 : decode cX1_init 63 = .ok (.goto (-25), 3) := by decide +kernel
theorem dX1_init_66 : decode cX1_init 66 = .ok (.iconst 0, 1) := by decide +kernel
theorem dX1_init_67 : decode cX1_init 67 = .ok (.istore_n 1, 1) := by decide +kernel
theorem dX1_init_68 : decode cX1_init 68 = .ok (.iload_n 1, 1) := by decide +kernel
theorem dX1_init_69 : decode cX1_init 69 = .ok (.aload_n 0, 1) := by decide +kernel
theorem dX1_init_70 : decode cX1_init 70 = .ok (.getfield 19, 3) := by decide +kernel
theorem dX1_init_73 : decode cX1_init 73 = .ok (.arraylength, 1) := by decide +kernel
theorem dX1_init_74 : decode cX1_init 74 = .ok (.if_icmp .ge 22, 3) := by decide +kernel
theorem dX1_init_77 : decode cX1_init 77 = .ok (.aload_n 0, 1) := by decide +kernel
theorem dX1_init_78 : decode cX1_init 78 = .ok (.getfield 19, 3) := by decide +kernel
theorem dX1_init_81 : decode cX1_init 81 = .ok (.iload_n 1, 1) := by decide +kernel
theorem dX1_init_82 : decode cX1_init 82 = .ok (.new 17, 3) := by decide +kernel
theorem dX1_init_85 : decode cX1_init 85 = .ok (.dup, 1) := by decide +kernel
theorem dX1_init_86 : decode cX1_init 86 = .ok (.invokespecial 34, 3) := by decide +kernel
theorem dX1_init_89 : decode cX1_init 89 = .ok (.aastore, 1) := by decide +kernel
theorem dX1_init_90 : decode cX1_init 90 = .ok (.iinc 1 1, 3) := by decide +kernel
theorem dX1_init_93 : decode cX1_init 93 = .ok (.goto (-25), 3) := by decide +kernel
theorem dX1_init_96 : decode cX1_init 96 = .ok (.iconst 0, 1) := by decide +kernel
theorem dX1_init_97 : decode cX1_init 97 = .ok (.istore_n 1, 1) := by decide +kernel
theorem dX1_init_98 : decode cX1_init 98 = .ok (.iload_n 1, 1) := by decide +kernel
theorem dX1_init_99 : decode cX1_init 99 = .ok (.aload_n 0, 1) := by decide +kernel
theorem dX1_init_100 : decode cX1_init 100 = .ok (.getfield 25, 3) := by decide +kernel
theorem dX1_init_103 : decode cX1_init 103 = .ok (.arraylength, 1) := by decide +kernel
theorem dX1_init_104 : decode cX1_init 104 = .ok (.if_icmp .ge 22, 3) := by decide +kernel
theorem dX1_init_107 : decode cX1_init 107 = .ok (.aload_n 0, 1) := by decide +kernel
theorem dX1_init_108 : decode cX1_init 108 = .ok (.getfield 25, 3) := by decide +kernel
theorem dX1_init_111 : decode cX1_init 111 = .ok (.iload_n 1, 1) := by decide +kernel
theorem dX1_init_112 : decode cX1_init 112 = .ok (.new 23, 3) := by decide +kernel
theorem dX1_init_115 : decode cX1_init 115 = .ok (.dup, 1) := by decide +kernel
theorem dX1_init_116 : decode cX1_init 116 = .ok (.invokespecial 35, 3) := by decide +kernel
theorem dX1_init_119 : decode cX1_init 119 = .ok (.aastore, 1) := by decide +kernel
theorem dX1_init_120 : decode cX1_init 120 = .ok (.iinc 1 1, 3) := by decide +kernel
theorem dX1_init_123 : decode cX1_init 123 = .ok (.goto (-25), 3) := by decide +kernel
theorem dX1_init_126 : decode cX1_init 126 = .ok (.return_, 1) := by decide +kernel
theorem dX1_copyFrom_0 : decode cX1_copyFrom 0 = .ok (.iconst 0, 1) := by decide +kernel
theorem dX1_copyFrom_1 : decode cX1_copyFrom 1 = .ok (.istore_n 2, 1) := by decide +kernel
theorem dX1_copyFrom_2 : decode cX1_copyFrom 2 = .ok (.iload_n 2, 1) := by decide +kernel
theorem dX1_copyFrom_3 : decode cX1_copyFrom 3 = .ok (.aload_n 0, 1) := by decide +kernel
theorem dX1_copyFrom_4 : decode cX1_copyFrom 4 = .ok (.getfield 11, 3) := by decide +kernel
theorem dX1_copyFrom_7 : decode cX1_copyFrom 7 = .ok (.arraylength, 1) := by decide +kernel
theorem dX1_copyFrom_8 : decode cX1_copyFrom 8 = .ok (.if_icmp .ge 33, 3) := by decide +kernel
theorem dX1_copyFrom_11 : decode cX1_copyFrom 11 = .ok (.iload_n 2, 1) := by decide +kernel
theorem dX1_copyFrom_12 : decode cX1_copyFrom 12 = .ok (.aload_n 1, 1) := by decide +kernel
theorem dX1_copyFrom_13 : decode cX1_copyFrom 13 = .ok (.getfield 11, 3) := by decide +kernel
theorem dX1_copyFrom_16 : decode cX1_copyFrom 16 = .ok (.arraylength, 1) := by decide +kernel
theorem dX1_copyFrom_17 : decode cX1_copyFrom 17 = .ok (.if_icmp .ge 24, 3) := by decide +kernel
theorem dX1_copyFrom_20 : decode cX1_copyFrom 20 = .ok (.aload_n 0, 1) := by decide +kernel
theorem dX1_copyFrom_21 : decode cX1_copyFrom 21 = .ok (.getfield 11, 3) := by decide +kernel
theorem dX1_copyFrom_24 : decode cX1_copyFrom 24 = .ok (.iload_n 2, 1) := by decide +kernel
theorem dX1_copyFrom_25 : decode cX1_copyFrom 25 = .ok (.aaload, 1) := by decide +kernel
theorem dX1_copyFrom_26 : decode cX1_copyFrom 26 = .ok (.aload_n 1, 1) := by decide +kernel
theorem dX1_copyFrom_27 : decode cX1_copyFrom 27 = .ok (.getfield 11, 3) := by decide +kernel
theorem dX1_copyFrom_30 : decode cX1_copyFrom 30 = .ok (.iload_n 2, 1) := by decide +kernel
theorem dX1_copyFrom_31 : decode cX1_copyFrom 31 = .ok (.aaload, 1) := by decide +kernel
theorem dX1_copyFrom_32 : decode cX1_copyFrom 32 = .ok (.invokevirtual 36, 3) := by decide +kernel
theorem dX1_copyFrom_35 : decode cX1_copyFrom 35 = .ok (.iinc 2 1, 3) := by decide +kernel
theorem dX1_copyFrom_38 : decode cX1_copyFrom 38 = .ok (.goto (-36), 3) := by decide +kernel
theorem dX1_copyFrom_41 : decode cX1_copyFrom 41 = .ok (.iconst 0, 1) := by decide +kernel
theorem dX1_copyFrom_42 : decode cX1_copyFrom 42 = .ok (.istore_n 2, 1) := by decide +kernel
theorem dX1_copyFrom_43 : decode cX1_copyFrom 43 = .ok (.iload_n 2, 1) := by decide +kernel
theorem dX1_copyFrom_44 : decode cX1_copyFrom 44 = .ok (.aload_n 0, 1) := by decide +kernel
theorem dX1_copyFrom_45 : decode cX1_copyFrom 45 = .ok (.getfield 19, 3) := by decide +kernel
theorem dX1_copyFrom_48 : decode cX1_copyFrom 48 = .ok (.arraylength, 1) := by decide +kernel
theorem dX1_copyFrom_49 : decode cX1_copyFrom 49 = .ok (.if_icmp .ge 33, 3) := by decide +kernel
theorem dX1_copyFrom_52 : decode cX1_copyFrom 52 = .ok (.iload_n 2, 1) := by decide +kernel
theorem dX1_copyFrom_53 : decode cX1_copyFrom 53 = .ok (.aload_n 1, 1) := by decide +kernel
theorem dX1_copyFrom_54 : decode cX1_copyFrom 54 = .ok (.getfield 19, 3) := by decide +kernel
theorem dX1_copyFrom_57 : decode cX1_copyFrom 57 = .ok (.arraylength, 1) := by decide +kernel
theorem dX1_copyFrom_58 : decode cX1_copyFrom 58 = .ok (.if_icmp .ge 24, 3) := by decide +kernel
theorem dX1_copyFrom_61 : decode cX1_copyFrom 61 = .ok (.aload_n 0, 1) := by decide +kernel
theorem dX1_copyFrom_62 : decode cX1_copyFrom 62 = .ok (.getfield 19, 3) := by decide +kernel
theorem dX1_copyFrom_65 : decode cX1_copyFrom 65 = .ok (.iload_n 2, 1) := by decide +kernel
theorem dX1_copyFrom_66 : decode cX1_copyFrom 66 = .ok (.aaload, 1) := by decide +kernel
theorem dX1_copyFrom_67 : decode cX1_copyFrom 67 = .ok (.aload_n 1, 1) := by decide +kernel
theorem dX1_copyFrom_68 : decode cX1_copyFrom 68 = .ok (.getfield 19, 3) := by decide +kernel
theorem dX1_copyFrom_71 : decode cX1_copyFrom 71 = .ok (.iload_n 2, 1) := by decide +kernel
theorem dX1_copyFrom_72 : decode cX1_copyFrom 72 = .ok (.aaload, 1) := by decide +kernel
theorem dX1_copyFrom_73 : decode cX1_copyFrom 73 = .ok (.invokevirtual 40, 3) := by decide +kernel
theorem dX1_copyFrom_76 : decode cX1_copyFrom 76 = .ok (.iinc 2 1, 3) := by decide +kernel
theorem dX1_copyFrom_79 : decode cX1_copyFrom 79 = .ok (.goto (-36), 3) := by decide +kernel
theorem dX1_copyFrom_82 : decode cX1_copyFrom 82 = .ok (.iconst 0, 1) := by decide +kernel
theorem dX1_copyFrom_83 : decode cX1_copyFrom 83 = .ok (.istore_n 2, 1) := by decide +kernel
theorem dX1_copyFrom_84 : decode cX1_copyFrom 84 = .ok (.iload_n 2, 1) := by decide +kernel
theorem dX1_copyFrom_85 : decode cX1_copyFrom 85 = .ok (.aload_n 0, 1) := by decide +kernel
theorem dX1_copyFrom_86 : decode cX1_copyFrom 86 = .ok (.getfield 25, 3) := by decide +kernel
theorem dX1_copyFrom_89 : decode cX1_copyFrom 89 = .ok (.arraylength, 1) := by decide +kernel
theorem dX1_copyFrom_90 : decode cX1_copyFrom 90 = .ok (.if_icmp .ge 33, 3) := by decide +kernel
theorem dX1_copyFrom_93 : decode cX1_copyFrom 93 = .ok (.iload_n 2, 1) := by decide +kernel
theorem dX1_copyFrom_94 : decode cX1_copyFrom 94 = .ok (.aload_n 1, 1) := by decide +kernel
theorem dX1_copyFrom_95 : decode cX1_copyFrom 95 = .ok (.getfield 25, 3) := by decide +kernel
theorem dX1_copyFrom_98 : decode cX1_copyFrom 98 = .ok (.arraylength, 1) := by decide +kernel
theorem dX1_copyFrom_99 : decode cX1_copyFrom 99 = .ok (.if_icmp .ge 24, 3) := by decide +kernel
theorem dX1_copyFrom_102 : decode cX1_copyFrom 102 = .ok (.aload_n 0, 1) := by decide +kernel
theorem dX1_copyFrom_103 : decode cX1_copyFrom 103 = .ok (.getfield 25, 3) := by decide +kernel
theorem dX1_copyFrom_106 : decode cX1_copyFrom 106 = .ok (.iload_n 2, 1) := by decide +kernel
theorem dX1_copyFrom_107 : decode cX1_copyFrom 107 = .ok (.aaload, 1) := by decide +kernel
theorem dX1_copyFrom_108 : decode cX1_copyFrom 108 = .ok (.aload_n 1, 1) := by decide +kernel
theorem dX1_copyFrom_109 : decode cX1_copyFrom 109 = .ok (.getfield 25, 3) := by decide +kernel
theorem dX1_copyFrom_112 : decode cX1_copyFrom 112 = .ok (.iload_n 2, 1) := by decide +kernel
theorem dX1_copyFrom_113 : decode cX1_copyFrom 113 = .ok (.aaload, 1) := by decide +kernel
theorem dX1_copyFrom_114 : decode cX1_copyFrom 114 = .ok (.invokevirtual 43, 3) := by decide +kernel
theorem dX1_copyFrom_117 : decode cX1_copyFrom 117 = .ok (.iinc 2 1, 3) := by decide +kernel
theorem dX1_copyFrom_120 : decode cX1_copyFrom 120 = .ok (.goto (-36), 3) := by decide +kernel
theorem dX1_copyFrom_123 : decode cX1_copyFrom 123 = .ok (.aload_n 0, 1) := by decide +kernel
theorem dX1_copyFrom_124 : decode cX1_copyFrom 124 = .ok (.aload_n 1, 1) := by decide +kernel
theorem dX1_copyFrom_125 : decode cX1_copyFrom 125 = .ok (.getfield 46, 3) := by decide +kernel
theorem dX1_copyFrom_128 : decode cX1_copyFrom 128 = .ok (.putfield 46, 3) := by decide +kernel
theorem dX1_copyFrom_131 : decode cX1_copyFrom 131 = .ok (.aload_n 0, 1) := by decide +kernel
theorem dX1_copyFrom_132 : decode cX1_copyFrom 132 = .ok (.aload_n 1, 1) := by decide +kernel
theorem dX1_copyFrom_133 : decode cX1_copyFrom 133 = .ok (.getfield 49, 3) := by decide +kernel
theorem dX1_copyFrom_136 : decode cX1_copyFrom 136 = .ok (.putfield 49, 3) := by decide +kernel
theorem dX1_copyFrom_139 : decode cX1_copyFrom 139 = .ok (.aload_n 0, 1) := by decide +kernel
theorem dX1_copyFrom_140 : decode cX1_copyFrom 140 = .ok (.aload_n 1, 1) := by decide +kernel
theorem dX1_copyFrom_141 : decode cX1_copyFrom 141 = .ok (.getfield 52, 3) := by decide +kernel
theorem dX1_copyFrom_144 : decode cX1_copyFrom 144 = .ok (.putfield 52, 3) := by decide +kernel
theorem dX1_copyFrom_147 : decode cX1_copyFrom 147 = .ok (.aload_n 0, 1) := by decide +kernel
theorem dX1_copyFrom_148 : decode cX1_copyFrom 148 = .ok (.aload_n 1, 1) := by decide +kernel
theorem dX1_copyFrom_149 : decode cX1_copyFrom 149 = .ok (.getfield 55, 3) := by decide +kernel
theorem dX1_copyFrom_152 : decode cX1_copyFrom 152 = .ok (.putfield 55, 3) := by decide +kernel
theorem dX1_copyFrom_155 : decode cX1_copyFrom 155 = .ok (.aload_n 0, 1) := by decide +kernel
theorem dX1_copyFrom_156 : decode cX1_copyFrom 156 = .ok (.aload_n 1, 1) := by decide +kernel
theorem dX1_copyFrom_157 : decode cX1_copyFrom 157 = .ok (.getfield 29, 3) := by decide +kernel
theorem dX1_copyFrom_160 : decode cX1_copyFrom 160 = .ok (.putfield 29, 3) := by decide +kernel
theorem dX1_copyFrom_163 : decode cX1_copyFrom 163 = .ok (.return_, 1) := by decide +kernel
theorem dX1_fireAt_0 : decode cX1_fireAt 0 = .ok (.iload_n 1, 1) := by decide +kernel
theorem dX1_fireAt_1 : decode cX1_fireAt 1 = .ok (.ifCond .lt 29, 3) := by decide +kernel
theorem dX1_fireAt_4 : decode cX1_fireAt 4 = .ok (.iload_n 1, 1) := by decide +kernel
theorem dX1_fireAt_5 : decode cX1_fireAt 5 = .ok (.aload_n 0, 1) := by decide +kernel
theorem dX1_fireAt_6 : decode cX1_fireAt 6 = .ok (.getfield 46, 3) := by decide +kernel
theorem dX1_fireAt_9 : decode cX1_fireAt 9 = .ok (.if_icmp .ge 21, 3) := by decide +kernel
theorem dX1_fireAt_12 : decode cX1_fireAt 12 = .ok (.iload_n 1, 1) := by decide +kernel
theorem dX1_fireAt_13 : decode cX1_fireAt 13 = .ok (.aload_n 0, 1) := by decide +kernel
theorem dX1_fireAt_14 : decode cX1_fireAt 14 = .ok (.getfield 11, 3) := by decide +kernel
theorem dX1_fireAt_17 : decode cX1_fireAt 17 = .ok (.arraylength, 1) := by decide +kernel
theorem dX1_fireAt_18 : decode cX1_fireAt 18 = .ok (.if_icmp .ge 12, 3) := by decide +kernel
theorem dX1_fireAt_21 : decode cX1_fireAt 21 = .ok (.aload_n 0, 1) := by decide +kernel
theorem dX1_fireAt_22 : decode cX1_fireAt 22 = .ok (.getfield 11, 3) := by decide +kernel
theorem dX1_fireAt_25 : decode cX1_fireAt 25 = .ok (.iload_n 1, 1) := by decide +kernel
theorem dX1_fireAt_26 : decode cX1_fireAt 26 = .ok (.aaload, 1) := by decide +kernel
theorem dX1_fireAt_27 : decode cX1_fireAt 27 = .ok (.goto 4, 3) := by decide +kernel
theorem dX1_fireAt_30 : decode cX1_fireAt 30 = .ok (.aconst_null, 1) := by decide +kernel
theorem dX1_fireAt_31 : decode cX1_fireAt 31 = .ok (.areturn, 1) := by decide +kernel
theorem dX1_spitAt_0 : decode cX1_spitAt 0 = .ok (.iload_n 1, 1) := by decide +kernel
theorem dX1_spitAt_1 : decode cX1_spitAt 1 = .ok (.ifCond .lt 29, 3) := by decide +kernel
theorem dX1_spitAt_4 : decode cX1_spitAt 4 = .ok (.iload_n 1, 1) := by decide +kernel
theorem dX1_spitAt_5 : decode cX1_spitAt 5 = .ok (.aload_n 0, 1) := by decide +kernel
theorem dX1_spitAt_6 : decode cX1_spitAt 6 = .ok (.getfield 49, 3) := by decide +kernel
theorem dX1_spitAt_9 : decode cX1_spitAt 9 = .ok (.if_icmp .ge 21, 3) := by decide +kernel
theorem dX1_spitAt_12 : decode cX1_spitAt 12 = .ok (.iload_n 1, 1) := by decide +kernel
theorem dX1_spitAt_13 : decode cX1_spitAt 13 = .ok (.aload_n 0, 1) := by decide +kernel
theorem dX1_spitAt_14 : decode cX1_spitAt 14 = .ok (.getfield 19, 3) := by decide +kernel
theorem dX1_spitAt_17 : decode cX1_spitAt 17 = .ok (.arraylength, 1) := by decide +kernel
theorem dX1_spitAt_18 : decode cX1_spitAt 18 = .ok (.if_icmp .ge 12, 3) := by decide +kernel
theorem dX1_spitAt_21 : decode cX1_spitAt 21 = .ok (.aload_n 0, 1) := by decide +kernel
theorem dX1_spitAt_22 : decode cX1_spitAt 22 = .ok (.getfield 19, 3) := by decide +kernel
theorem dX1_spitAt_25 : decode cX1_spitAt 25 = .ok (.iload_n 1, 1) := by decide +kernel
theorem dX1_spitAt_26 : decode cX1_spitAt 26 = .ok (.aaload, 1) := by decide +kernel
theorem dX1_spitAt_27 : decode cX1_spitAt 27 = .ok (.goto 4, 3) := by decide +kernel
theorem dX1_spitAt_30 : decode cX1_spitAt 30 = .ok (.aconst_null, 1) := by decide +kernel
theorem dX1_spitAt_31 : decode cX1_spitAt 31 = .ok (.areturn, 1) := by decide +kernel
theorem dX1_roastAt_0 : decode cX1_roastAt 0 = .ok (.iload_n 1, 1) := by decide +kernel
theorem dX1_roastAt_1 : decode cX1_roastAt 1 = .ok (.ifCond .lt 29, 3) := by decide +kernel
theorem dX1_roastAt_4 : decode cX1_roastAt 4 = .ok (.iload_n 1, 1) := by decide +kernel
theorem dX1_roastAt_5 : decode cX1_roastAt 5 = .ok (.aload_n 0, 1) := by decide +kernel
theorem dX1_roastAt_6 : decode cX1_roastAt 6 = .ok (.getfield 52, 3) := by decide +kernel
theorem dX1_roastAt_9 : decode cX1_roastAt 9 = .ok (.if_icmp .ge 21, 3) := by decide +kernel
theorem dX1_roastAt_12 : decode cX1_roastAt 12 = .ok (.iload_n 1, 1) := by decide +kernel
theorem dX1_roastAt_13 : decode cX1_roastAt 13 = .ok (.aload_n 0, 1) := by decide +kernel
theorem dX1_roastAt_14 : decode cX1_roastAt 14 = .ok (.getfield 25, 3) := by decide +kernel
theorem dX1_roastAt_17 : decode cX1_roastAt 17 = .ok (.arraylength, 1) := by decide +kernel
theorem dX1_roastAt_18 : decode cX1_roastAt 18 = .ok (.if_icmp .ge 12, 3) := by decide +kernel
theorem dX1_roastAt_21 : decode cX1_roastAt 21 = .ok (.aload_n 0, 1) := by decide +kernel
theorem dX1_roastAt_22 : decode cX1_roastAt 22 = .ok (.getfield 25, 3) := by decide +kernel
theorem dX1_roastAt_25 : decode cX1_roastAt 25 = .ok (.iload_n 1, 1) := by decide +kernel
theorem dX1_roastAt_26 : decode cX1_roastAt 26 = .ok (.aaload, 1) := by decide +kernel
theorem dX1_roastAt_27 : decode cX1_roastAt 27 = .ok (.goto 4, 3) := by decide +kernel
theorem dX1_roastAt_30 : decode cX1_roastAt 30 = .ok (.aconst_null, 1) := by decide +kernel
theorem dX1_roastAt_31 : decode cX1_roastAt 31 = .ok (.areturn, 1) := by decide +kernel
theorem dX1_placeFire_0 : decode cX1_placeFire 0 = .ok (.aload_n 0, 1) := by decide +kernel
theorem dX1_placeFire_1 : decode cX1_placeFire 1 = .ok (.getfield 46, 3) := by decide +kernel
theorem dX1_placeFire_4 : decode cX1_placeFire 4 = .ok (.aload_n 0, 1) := by decide +kernel
theorem dX1_placeFire_5 : decode cX1_placeFire 5 = .ok (.getfield 11, 3) := by decide +kernel
theorem dX1_placeFire_8 : decode cX1_placeFire 8 = .ok (.arraylength, 1) := by decide +kernel
theorem dX1_placeFire_9 : decode cX1_placeFire 9 = .ok (.if_icmp .lt 5, 3) := by decide +kernel
theorem dX1_placeFire_12 : decode cX1_placeFire 12 = .ok (.iconst (-1), 1) := by decide +kernel
theorem dX1_placeFire_13 : decode cX1_placeFire 13 = .ok (.ireturn, 1) := by decide +kernel
theorem dX1_placeFire_14 : decode cX1_placeFire 14 = .ok (.aload_n 0, 1) := by decide +kernel
theorem dX1_placeFire_15 : decode cX1_placeFire 15 = .ok (.dup, 1) := by decide +kernel
theorem dX1_placeFire_16 : decode cX1_placeFire 16 = .ok (.getfield 46, 3) := by decide +kernel
theorem dX1_placeFire_19 : decode cX1_placeFire 19 = .ok (.iconst 1, 1) := by decide +kernel
theorem dX1_placeFire_20 : decode cX1_placeFire 20 = .ok (.iadd, 1) := by decide +kernel
theorem dX1_placeFire_21 : decode cX1_placeFire 21 = .ok (.putfield 46, 3) := by decide +kernel
theorem dX1_placeFire_24 : decode cX1_placeFire 24 = .ok (.aload_n 0, 1) := by decide +kernel
theorem dX1_placeFire_25 : decode cX1_placeFire 25 = .ok (.getfield 46, 3) := by decide +kernel
theorem dX1_placeFire_28 : decode cX1_placeFire 28 = .ok (.iconst 1, 1) := by decide +kernel
theorem dX1_placeFire_29 : decode cX1_placeFire 29 = .ok (.isub, 1) := by decide +kernel
theorem dX1_placeFire_30 : decode cX1_placeFire 30 = .ok (.ireturn, 1) := by decide +kernel
theorem dX1_placeSpit_0 : decode cX1_placeSpit 0 = .ok (.aload_n 0, 1) := by decide +kernel
theorem dX1_placeSpit_1 : decode cX1_placeSpit 1 = .ok (.getfield 49, 3) := by decide +kernel
theorem dX1_placeSpit_4 : decode cX1_placeSpit 4 = .ok (.ifCond .lt 15, 3) := by decide +kernel
theorem dX1_placeSpit_7 : decode cX1_placeSpit 7 = .ok (.aload_n 0, 1) := by decide +kernel
theorem dX1_placeSpit_8 : decode cX1_placeSpit 8 = .ok (.getfield 49, 3) := by decide +kernel
theorem dX1_placeSpit_11 : decode cX1_placeSpit 11 = .ok (.aload_n 0, 1) := by decide +kernel
theorem dX1_placeSpit_12 : decode cX1_placeSpit 12 = .ok (.getfield 19, 3) := by decide +kernel
theorem dX1_placeSpit_15 : decode cX1_placeSpit 15 = .ok (.arraylength, 1) := by decide +kernel
theorem dX1_placeSpit_16 : decode cX1_placeSpit 16 = .ok (.if_icmp .lt 5, 3) := by decide +kernel
theorem dX1_placeSpit_19 : decode cX1_placeSpit 19 = .ok (.iconst (-1), 1) := by decide +kernel
theorem dX1_placeSpit_20 : decode cX1_placeSpit 20 = .ok (.ireturn, 1) := by decide +kernel
theorem dX1_placeSpit_21 : decode cX1_placeSpit 21 = .ok (.aload_n 0, 1) := by decide +kernel
theorem dX1_placeSpit_22 : decode cX1_placeSpit 22 = .ok (.getfield 19, 3) := by decide +kernel
theorem dX1_placeSpit_25 : decode cX1_placeSpit 25 = .ok (.aload_n 0, 1) := by decide +kernel
theorem dX1_placeSpit_26 : decode cX1_placeSpit 26 = .ok (.getfield 49, 3) := by decide +kernel
theorem dX1_placeSpit_29 : decode cX1_placeSpit 29 = .ok (.aaload, 1) := by decide +kernel
theorem dX1_placeSpit_30 : decode cX1_placeSpit 30 = .ok (.astore_n 3, 1) := by decide +kernel
theorem dX1_placeSpit_31 : decode cX1_placeSpit 31 = .ok (.aload_n 3, 1) := by decide +kernel
theorem dX1_placeSpit_32 : decode cX1_placeSpit 32 = .ok (.iload_n 1, 1) := by decide +kernel
theorem dX1_placeSpit_33 : decode cX1_placeSpit 33 = .ok (.putfield 58, 3) := by decide +kernel
theorem dX1_placeSpit_36 : decode cX1_placeSpit 36 = .ok (.aload_n 3, 1) := by decide +kernel
theorem dX1_placeSpit_37 : decode cX1_placeSpit 37 = .ok (.iload_n 2, 1) := by decide +kernel
theorem dX1_placeSpit_38 : decode cX1_placeSpit 38 = .ok (.putfield 61, 3) := by decide +kernel
theorem dX1_placeSpit_41 : decode cX1_placeSpit 41 = .ok (.aload_n 0, 1) := by decide +kernel
theorem dX1_placeSpit_42 : decode cX1_placeSpit 42 = .ok (.dup, 1) := by decide +kernel
theorem dX1_placeSpit_43 : decode cX1_placeSpit 43 = .ok (.getfield 49, 3) := by decide +kernel
theorem dX1_placeSpit_46 : decode cX1_placeSpit 46 = .ok (.iconst 1, 1) := by decide +kernel
theorem dX1_placeSpit_47 : decode cX1_placeSpit 47 = .ok (.iadd, 1) := by decide +kernel
theorem dX1_placeSpit_48 : decode cX1_placeSpit 48 = .ok (.putfield 49, 3) := by decide +kernel
theorem dX1_placeSpit_51 : decode cX1_placeSpit 51 = .ok (.aload_n 0, 1) := by decide +kernel
theorem dX1_placeSpit_52 : decode cX1_placeSpit 52 = .ok (.getfield 49, 3) := by decide +kernel
theorem dX1_placeSpit_55 : decode cX1_placeSpit 55 = .ok (.iconst 1, 1) := by decide +kernel
theorem dX1_placeSpit_56 : decode cX1_placeSpit 56 = .ok (.isub, 1) := by decide +kernel
theorem dX1_placeSpit_57 : decode cX1_placeSpit 57 = .ok (.ireturn, 1) := by decide +kernel
theorem dX1_placeRoast_0 : decode cX1_placeRoast 0 = .ok (.aload_n 0, 1) := by decide +kernel
theorem dX1_placeRoast_1 : decode cX1_placeRoast 1 = .ok (.iload_n 1, 1) := by decide +kernel
theorem dX1_placeRoast_2 : decode cX1_placeRoast 2 = .ok (.invokevirtual 64, 3) := by decide +kernel
theorem dX1_placeRoast_5 : decode cX1_placeRoast 5 = .ok (.astore_n 3, 1) := by decide +kernel
theorem dX1_placeRoast_6 : decode cX1_placeRoast 6 = .ok (.aload_n 3, 1) := by decide +kernel
theorem dX1_placeRoast_7 : decode cX1_placeRoast 7 = .ok (.ifnull 30, 3) := by decide +kernel
theorem dX1_placeRoast_10 : decode cX1_placeRoast 10 = .ok (.aload_n 3, 1) := by decide +kernel
theorem dX1_placeRoast_11 : decode cX1_placeRoast 11 = .ok (.getfield 68, 3) := by decide +kernel
theorem dX1_placeRoast_14 : decode cX1_placeRoast 14 = .ok (.iconst (-1), 1) := by decide +kernel
theorem dX1_placeRoast_15 : decode cX1_placeRoast 15 = .ok (.if_icmp .ne 22, 3) := by decide +kernel
theorem dX1_placeRoast_18 : decode cX1_placeRoast 18 = .ok (.aload_n 0, 1) := by decide +kernel
theorem dX1_placeRoast_19 : decode cX1_placeRoast 19 = .ok (.getfield 52, 3) := by decide +kernel
theorem dX1_placeRoast_22 : decode cX1_placeRoast 22 = .ok (.ifCond .lt 15, 3) := by decide +kernel
theorem dX1_placeRoast_25 : decode cX1_placeRoast 25 = .ok (.aload_n 0, 1) := by decide +kernel
theorem dX1_placeRoast_26 : decode cX1_placeRoast 26 = .ok (.getfield 52, 3) := by decide +kernel
theorem dX1_placeRoast_29 : decode cX1_placeRoast 29 = .ok (.aload_n 0, 1) := by decide +kernel
theorem dX1_placeRoast_30 : decode cX1_placeRoast 30 = .ok (.getfield 25, 3) := by decide +kernel
theorem dX1_placeRoast_33 : decode cX1_placeRoast 33 = .ok (.arraylength, 1) := by decide +kernel
theorem dX1_placeRoast_34 : decode cX1_placeRoast 34 = .ok (.if_icmp .lt 5, 3) := by decide +kernel
theorem dX1_placeRoast_37 : decode cX1_placeRoast 37 = .ok (.iconst (-1), 1) := by decide +kernel
theorem dX1_placeRoast_38 : decode cX1_placeRoast 38 = .ok (.ireturn, 1) := by decide +kernel
theorem dX1_placeRoast_39 : decode cX1_placeRoast 39 = .ok (.aload_n 0, 1) := by decide +kernel
theorem dX1_placeRoast_40 : decode cX1_placeRoast 40 = .ok (.getfield 25, 3) := by decide +kernel
theorem dX1_placeRoast_43 : decode cX1_placeRoast 43 = .ok (.aload_n 0, 1) := by decide +kernel
theorem dX1_placeRoast_44 : decode cX1_placeRoast 44 = .ok (.getfield 52, 3) := by decide +kernel
theorem dX1_placeRoast_47 : decode cX1_placeRoast 47 = .ok (.aaload, 1) := by decide +kernel
theorem dX1_placeRoast_48 : decode cX1_placeRoast 48 = .ok (.astore 4, 2) := by decide +kernel
theorem dX1_placeRoast_50 : decode cX1_placeRoast 50 = .ok (.aload 4, 2) := by decide +kernel
theorem dX1_placeRoast_52 : decode cX1_placeRoast 52 = .ok (.iload_n 2, 1) := by decide +kernel
theorem dX1_placeRoast_53 : decode cX1_placeRoast 53 = .ok (.putfield 71, 3) := by decide +kernel
theorem dX1_placeRoast_56 : decode cX1_placeRoast 56 = .ok (.aload 4, 2) := by decide +kernel
theorem dX1_placeRoast_58 : decode cX1_placeRoast 58 = .ok (.iconst 3, 1) := by decide +kernel
theorem dX1_placeRoast_59 : decode cX1_placeRoast 59 = .ok (.iload_n 2, 1) := by decide +kernel
theorem dX1_placeRoast_60 : decode cX1_placeRoast 60 = .ok (.imul, 1) := by decide +kernel
theorem dX1_placeRoast_61 : decode cX1_placeRoast 61 = .ok (.putfield 74, 3) := by decide +kernel
theorem dX1_placeRoast_64 : decode cX1_placeRoast 64 = .ok (.aload 4, 2) := by decide +kernel
theorem dX1_placeRoast_66 : decode cX1_placeRoast 66 = .ok (.iload_n 1, 1) := by decide +kernel
theorem dX1_placeRoast_67 : decode cX1_placeRoast 67 = .ok (.putfield 77, 3) := by decide +kernel
theorem dX1_placeRoast_70 : decode cX1_placeRoast 70 = .ok (.aload_n 3, 1) := by decide +kernel
theorem dX1_placeRoast_71 : decode cX1_placeRoast 71 = .ok (.aload_n 0, 1) := by decide +kernel
theorem dX1_placeRoast_72 : decode cX1_placeRoast 72 = .ok (.getfield 52, 3) := by decide +kernel
theorem dX1_placeRoast_75 : decode cX1_placeRoast 75 = .ok (.putfield 68, 3) := by decide +kernel
theorem dX1_placeRoast_78 : decode cX1_placeRoast 78 = .ok (.aload_n 3, 1) := by decide +kernel
theorem dX1_placeRoast_79 : decode cX1_placeRoast 79 = .ok (.iconst 0, 1) := by decide +kernel
theorem dX1_placeRoast_80 : decode cX1_placeRoast 80 = .ok (.putfield 80, 3) := by decide +kernel
theorem dX1_placeRoast_83 : decode cX1_placeRoast 83 = .ok (.aload_n 0, 1) := by decide +kernel
theorem dX1_placeRoast_84 : decode cX1_placeRoast 84 = .ok (.dup, 1) := by decide +kernel
theorem dX1_placeRoast_85 : decode cX1_placeRoast 85 = .ok (.getfield 52, 3) := by decide +kernel
theorem dX1_placeRoast_88 : decode cX1_placeRoast 88 = .ok (.iconst 1, 1) := by decide +kernel
theorem dX1_placeRoast_89 : decode cX1_placeRoast 89 = .ok (.iadd, 1) := by decide +kernel
theorem dX1_placeRoast_90 : decode cX1_placeRoast 90 = .ok (.putfield 52, 3) := by decide +kernel
theorem dX1_placeRoast_93 : decode cX1_placeRoast 93 = .ok (.aload_n 3, 1) := by decide +kernel
theorem dX1_placeRoast_94 : decode cX1_placeRoast 94 = .ok (.getfield 68, 3) := by decide +kernel
theorem dX1_placeRoast_97 : decode cX1_placeRoast 97 = .ok (.ireturn, 1) := by decide +kernel
theorem dX1_glowOf_0 : decode cX1_glowOf 0 = .ok (.aload_n 0, 1) := by decide +kernel
theorem dX1_glowOf_1 : decode cX1_glowOf 1 = .ok (.aload_n 1, 1) := by decide +kernel
theorem dX1_glowOf_2 : decode cX1_glowOf 2 = .ok (.getfield 58, 3) := by decide +kernel
theorem dX1_glowOf_5 : decode cX1_glowOf 5 = .ok (.invokevirtual 83, 3) := by decide +kernel
theorem dX1_glowOf_8 : decode cX1_glowOf 8 = .ok (.astore_n 2, 1) := by decide +kernel
theorem dX1_glowOf_9 : decode cX1_glowOf 9 = .ok (.aload_n 2, 1) := by decide +kernel
theorem dX1_glowOf_10 : decode cX1_glowOf 10 = .ok (.ifnull 10, 3) := by decide +kernel
theorem dX1_glowOf_13 : decode cX1_glowOf 13 = .ok (.aload_n 1, 1) := by decide +kernel
theorem dX1_glowOf_14 : decode cX1_glowOf 14 = .ok (.getfield 61, 3) := by decide +kernel
theorem dX1_glowOf_17 : decode cX1_glowOf 17 = .ok (.ifCond .gt 7, 3) := by decide +kernel
theorem dX1_glowOf_20 : decode cX1_glowOf 20 = .ok (.iconst 0, 1) := by decide +kernel
theorem dX1_glowOf_21 : decode cX1_glowOf 21 = .ok (.goto 12, 3) := by decide +kernel
theorem dX1_glowOf_24 : decode cX1_glowOf 24 = .ok (.aload_n 2, 1) := by decide +kernel
theorem dX1_glowOf_25 : decode cX1_glowOf 25 = .ok (.getfield 87, 3) := by decide +kernel
theorem dX1_glowOf_28 : decode cX1_glowOf 28 = .ok (.aload_n 1, 1) := by decide +kernel
theorem dX1_glowOf_29 : decode cX1_glowOf 29 = .ok (.getfield 61, 3) := by decide +kernel
theorem dX1_glowOf_32 : decode cX1_glowOf 32 = .ok (.idiv, 1) := by decide +kernel
theorem dX1_glowOf_33 : decode cX1_glowOf 33 = .ok (.ireturn, 1) := by decide +kernel
theorem dX1_goMinutes_0 : decode cX1_goMinutes 0 = .ok (.iconst 0, 1) := by decide +kernel
theorem dX1_goMinutes_1 : decode cX1_goMinutes 1 = .ok (.istore_n 2, 1) := by decide +kernel
theorem dX1_goMinutes_2 : decode cX1_goMinutes 2 = .ok (.iconst 0, 1) := by decide +kernel
theorem dX1_goMinutes_3 : decode cX1_goMinutes 3 = .ok (.istore_n 3, 1) := by decide +kernel
theorem dX1_goMinutes_4 : decode cX1_goMinutes 4 = .ok (.iload_n 3, 1) := by decide +kernel
theorem dX1_goMinutes_5 : decode cX1_goMinutes 5 = .ok (.iload_n 1, 1) := by decide +kernel
theorem dX1_goMinutes_6 : decode cX1_goMinutes 6 = .ok (.if_icmp .ge 16, 3) := by decide +kernel
theorem dX1_goMinutes_9 : decode cX1_goMinutes 9 = .ok (.iload_n 2, 1) := by decide +kernel
theorem dX1_goMinutes_10 : decode cX1_goMinutes 10 = .ok (.aload_n 0, 1) := by decide +kernel
theorem dX1_goMinutes_11 : decode cX1_goMinutes 11 = .ok (.invokevirtual 90, 3) := by decide +kernel
theorem dX1_goMinutes_14 : decode cX1_goMinutes 14 = .ok (.iadd, 1) := by decide +kernel
theorem dX1_goMinutes_15 : decode cX1_goMinutes 15 = .ok (.istore_n 2, 1) := by decide +kernel
theorem dX1_goMinutes_16 : decode cX1_goMinutes 16 = .ok (.iinc 3 1, 3) := by decide +kernel
theorem dX1_goMinutes_19 : decode cX1_goMinutes 19 = .ok (.goto (-15), 3) := by decide +kernel
theorem dX1_goMinutes_22 : decode cX1_goMinutes 22 = .ok (.iload_n 2, 1) := by decide +kernel
theorem dX1_goMinutes_23 : decode cX1_goMinutes 23 = .ok (.ireturn, 1) := by decide +kernel
theorem dX1_goMinute_0 : decode cX1_goMinute 0 = .ok (.iconst 0, 1) := by decide +kernel
theorem dX1_goMinute_1 : decode cX1_goMinute 1 = .ok (.istore_n 1, 1) := by decide +kernel
theorem dX1_goMinute_2 : decode cX1_goMinute 2 = .ok (.aload_n 0, 1) := by decide +kernel
theorem dX1_goMinute_3 : decode cX1_goMinute 3 = .ok (.getfield 19, 3) := by decide +kernel
theorem dX1_goMinute_6 : decode cX1_goMinute 6 = .ok (.astore_n 2, 1) := by decide +kernel
theorem dX1_goMinute_7 : decode cX1_goMinute 7 = .ok (.aload_n 2, 1) := by decide +kernel
theorem dX1_goMinute_8 : decode cX1_goMinute 8 = .ok (.arraylength, 1) := by decide +kernel
theorem dX1_goMinute_9 : decode cX1_goMinute 9 = .ok (.istore_n 3, 1) := by decide +kernel
theorem dX1_goMinute_10 : decode cX1_goMinute 10 = .ok (.iconst 0, 1) := by decide +kernel
theorem dX1_goMinute_11 : decode cX1_goMinute 11 = .ok (.istore 4, 2) := by decide +kernel
theorem dX1_goMinute_13 : decode cX1_goMinute 13 = .ok (.iload 4, 2) := by decide +kernel
theorem dX1_goMinute_15 : decode cX1_goMinute 15 = .ok (.iload_n 3, 1) := by decide +kernel
theorem dX1_goMinute_16 : decode cX1_goMinute 16 = .ok (.if_icmp .ge 27, 3) := by decide +kernel
theorem dX1_goMinute_19 : decode cX1_goMinute 19 = .ok (.aload_n 2, 1) := by decide +kernel
theorem dX1_goMinute_20 : decode cX1_goMinute 20 = .ok (.iload 4, 2) := by decide +kernel
theorem dX1_goMinute_22 : decode cX1_goMinute 22 = .ok (.aaload, 1) := by decide +kernel
theorem dX1_goMinute_23 : decode cX1_goMinute 23 = .ok (.astore 5, 2) := by decide +kernel
theorem dX1_goMinute_25 : decode cX1_goMinute 25 = .ok (.aload_n 0, 1) := by decide +kernel
theorem dX1_goMinute_26 : decode cX1_goMinute 26 = .ok (.aload 5, 2) := by decide +kernel
theorem dX1_goMinute_28 : decode cX1_goMinute 28 = .ok (.invokevirtual 94, 3) := by decide +kernel
theorem dX1_goMinute_31 : decode cX1_goMinute 31 = .ok (.ifCond .eq 6, 3) := by decide +kernel
theorem dX1_goMinute_34 : decode cX1_goMinute 34 = .ok (.iinc 1 1, 3) := by decide +kernel
theorem dX1_goMinute_37 : decode cX1_goMinute 37 = .ok (.iinc 4 1, 3) := by decide +kernel
theorem dX1_goMinute_40 : decode cX1_goMinute 40 = .ok (.goto (-27), 3) := by decide +kernel
theorem dX1_goMinute_43 : decode cX1_goMinute 43 = .ok (.aload_n 0, 1) := by decide +kernel
theorem dX1_goMinute_44 : decode cX1_goMinute 44 = .ok (.getfield 11, 3) := by decide +kernel
theorem dX1_goMinute_47 : decode cX1_goMinute 47 = .ok (.astore_n 2, 1) := by decide +kernel
theorem dX1_goMinute_48 : decode cX1_goMinute 48 = .ok (.aload_n 2, 1) := by decide +kernel
theorem dX1_goMinute_49 : decode cX1_goMinute 49 = .ok (.arraylength, 1) := by decide +kernel
theorem dX1_goMinute_50 : decode cX1_goMinute 50 = .ok (.istore_n 3, 1) := by decide +kernel
theorem dX1_goMinute_51 : decode cX1_goMinute 51 = .ok (.iconst 0, 1) := by decide +kernel
theorem dX1_goMinute_52 : decode cX1_goMinute 52 = .ok (.istore 4, 2) := by decide +kernel
theorem dX1_goMinute_54 : decode cX1_goMinute 54 = .ok (.iload 4, 2) := by decide +kernel
theorem dX1_goMinute_56 : decode cX1_goMinute 56 = .ok (.iload_n 3, 1) := by decide +kernel
theorem dX1_goMinute_57 : decode cX1_goMinute 57 = .ok (.if_icmp .ge 24, 3) := by decide +kernel
theorem dX1_goMinute_60 : decode cX1_goMinute 60 = .ok (.aload_n 2, 1) := by decide +kernel
theorem dX1_goMinute_61 : decode cX1_goMinute 61 = .ok (.iload 4, 2) := by decide +kernel
theorem dX1_goMinute_63 : decode cX1_goMinute 63 = .ok (.aaload, 1) := by decide +kernel
theorem dX1_goMinute_64 : decode cX1_goMinute 64 = .ok (.astore 5, 2) := by decide +kernel
theorem dX1_goMinute_66 : decode cX1_goMinute 66 = .ok (.aload 5, 2) := by decide +kernel
theorem dX1_goMinute_68 : decode cX1_goMinute 68 = .ok (.aload_n 0, 1) := by decide +kernel
theorem dX1_goMinute_69 : decode cX1_goMinute 69 = .ok (.getfield 55, 3) := by decide +kernel
theorem dX1_goMinute_72 : decode cX1_goMinute 72 = .ok (.invokevirtual 98, 3) := by decide +kernel
theorem dX1_goMinute_75 : decode cX1_goMinute 75 = .ok (.iinc 4 1, 3) := by decide +kernel
theorem dX1_goMinute_78 : decode cX1_goMinute 78 = .ok (.goto (-24), 3) := by decide +kernel
theorem dX1_goMinute_81 : decode cX1_goMinute 81 = .ok (.aload_n 0, 1) := by decide +kernel
theorem dX1_goMinute_82 : decode cX1_goMinute 82 = .ok (.dup, 1) := by decide +kernel
theorem dX1_goMinute_83 : decode cX1_goMinute 83 = .ok (.getfield 55, 3) := by decide +kernel
theorem dX1_goMinute_86 : decode cX1_goMinute 86 = .ok (.iconst 1, 1) := by decide +kernel
theorem dX1_goMinute_87 : decode cX1_goMinute 87 = .ok (.iadd, 1) := by decide +kernel
theorem dX1_goMinute_88 : decode cX1_goMinute 88 = .ok (.putfield 55, 3) := by decide +kernel
theorem dX1_goMinute_91 : decode cX1_goMinute 91 = .ok (.iload_n 1, 1) := by decide +kernel
theorem dX1_goMinute_92 : decode cX1_goMinute 92 = .ok (.ireturn, 1) := by decide +kernel
theorem dX1_roastForAMinute_0 : decode cX1_roastForAMinute 0 = .ok (.aload_n 0, 1) := by decide +kernel
theorem dX1_roastForAMinute_1 : decode cX1_roastForAMinute 1 = .ok (.aload_n 1, 1) := by decide +kernel
theorem dX1_roastForAMinute_2 : decode cX1_roastForAMinute 2 = .ok (.getfield 68, 3) := by decide +kernel
theorem dX1_roastForAMinute_5 : decode cX1_roastForAMinute 5 = .ok (.invokevirtual 102, 3) := by decide +kernel
theorem dX1_roastForAMinute_8 : decode cX1_roastForAMinute 8 = .ok (.astore_n 2, 1) := by decide +kernel
theorem dX1_roastForAMinute_9 : decode cX1_roastForAMinute 9 = .ok (.aload_n 0, 1) := by decide +kernel
theorem dX1_roastForAMinute_10 : decode cX1_roastForAMinute 10 = .ok (.aload_n 1, 1) := by decide +kernel
theorem dX1_roastForAMinute_11 : decode cX1_roastForAMinute 11 = .ok (.getfield 58, 3) := by decide +kernel
theorem dX1_roastForAMinute_14 : decode cX1_roastForAMinute 14 = .ok (.invokevirtual 83, 3) := by decide +kernel
theorem dX1_roastForAMinute_17 : decode cX1_roastForAMinute 17 = .ok (.astore_n 3, 1) := by decide +kernel
theorem dX1_roastForAMinute_18 : decode cX1_roastForAMinute 18 = .ok (.aload_n 2, 1) := by decide +kernel
theorem dX1_roastForAMinute_19 : decode cX1_roastForAMinute 19 = .ok (.ifnull 7, 3) := by decide +kernel
theorem dX1_roastForAMinute_22 : decode cX1_roastForAMinute 22 = .ok (.aload_n 3, 1) := by decide +kernel
theorem dX1_roastForAMinute_23 : decode cX1_roastForAMinute 23 = .ok (.ifnonnull 5, 3) := by decide +kernel
theorem dX1_roastForAMinute_26 : decode cX1_roastForAMinute 26 = .ok (.iconst 0, 1) := by decide +kernel
theorem dX1_roastForAMinute_27 : decode cX1_roastForAMinute 27 = .ok (.ireturn, 1) := by decide +kernel
theorem dX1_roastForAMinute_28 : decode cX1_roastForAMinute 28 = .ok (.aload_n 2, 1) := by decide +kernel
theorem dX1_roastForAMinute_29 : decode cX1_roastForAMinute 29 = .ok (.aload_n 0, 1) := by decide +kernel
theorem dX1_roastForAMinute_30 : decode cX1_roastForAMinute 30 = .ok (.aload_n 1, 1) := by decide +kernel
theorem dX1_roastForAMinute_31 : decode cX1_roastForAMinute 31 = .ok (.invokevirtual 106, 3) := by decide +kernel
theorem dX1_roastForAMinute_34 : decode cX1_roastForAMinute 34 = .ok (.invokevirtual 110, 3) := by decide +kernel
theorem dX1_roastForAMinute_37 : decode cX1_roastForAMinute 37 = .ok (.istore 4, 2) := by decide +kernel
theorem dX1_roastForAMinute_39 : decode cX1_roastForAMinute 39 = .ok (.aload_n 2, 1) := by decide +kernel
theorem dX1_roastForAMinute_40 : decode cX1_roastForAMinute 40 = .ok (.iload 4, 2) := by decide +kernel
theorem dX1_roastForAMinute_42 : decode cX1_roastForAMinute 42 = .ok (.invokevirtual 114, 3) := by decide +kernel
theorem dX1_roastForAMinute_45 : decode cX1_roastForAMinute 45 = .ok (.ifCond .eq 14, 3) := by decide +kernel
theorem dX1_roastForAMinute_48 : decode cX1_roastForAMinute 48 = .ok (.aload_n 1, 1) := by decide +kernel
theorem dX1_roastForAMinute_49 : decode cX1_roastForAMinute 49 = .ok (.invokevirtual 118, 3) := by decide +kernel
theorem dX1_roastForAMinute_52 : decode cX1_roastForAMinute 52 = .ok (.ifCond .ne 7, 3) := by decide +kernel
theorem dX1_roastForAMinute_55 : decode cX1_roastForAMinute 55 = .ok (.iconst 1, 1) := by decide +kernel
theorem dX1_roastForAMinute_56 : decode cX1_roastForAMinute 56 = .ok (.goto 4, 3) := by decide +kernel
theorem dX1_roastForAMinute_59 : decode cX1_roastForAMinute 59 = .ok (.iconst 0, 1) := by decide +kernel
theorem dX1_roastForAMinute_60 : decode cX1_roastForAMinute 60 = .ok (.istore 5, 2) := by decide +kernel
theorem dX1_roastForAMinute_62 : decode cX1_roastForAMinute 62 = .ok (.iload 5, 2) := by decide +kernel
theorem dX1_roastForAMinute_64 : decode cX1_roastForAMinute 64 = .ok (.ifCond .eq 13, 3) := by decide +kernel
theorem dX1_roastForAMinute_67 : decode cX1_roastForAMinute 67 = .ok (.aload_n 3, 1) := by decide +kernel
theorem dX1_roastForAMinute_68 : decode cX1_roastForAMinute 68 = .ok (.dup, 1) := by decide +kernel
theorem dX1_roastForAMinute_69 : decode cX1_roastForAMinute 69 = .ok (.getfield 122, 3) := by decide +kernel
theorem dX1_roastForAMinute_72 : decode cX1_roastForAMinute 72 = .ok (.iconst 1, 1) := by decide +kernel
theorem dX1_roastForAMinute_73 : decode cX1_roastForAMinute 73 = .ok (.iadd, 1) := by decide +kernel
theorem dX1_roastForAMinute_74 : decode cX1_roastForAMinute 74 = .ok (.putfield 122, 3) := by decide +kernel
theorem dX1_roastForAMinute_77 : decode cX1_roastForAMinute 77 = .ok (.aload_n 1, 1) := by decide +kernel
theorem dX1_roastForAMinute_78 : decode cX1_roastForAMinute 78 = .ok (.invokevirtual 125, 3) := by decide +kernel
theorem dX1_roastForAMinute_81 : decode cX1_roastForAMinute 81 = .ok (.ifCond .eq 7, 3) := by decide +kernel
theorem dX1_roastForAMinute_84 : decode cX1_roastForAMinute 84 = .ok (.aload_n 2, 1) := by decide +kernel
theorem dX1_roastForAMinute_85 : decode cX1_roastForAMinute 85 = .ok (.invokevirtual 128, 3) := by decide +kernel
theorem dX1_roastForAMinute_88 : decode cX1_roastForAMinute 88 = .ok (.iload 5, 2) := by decide +kernel
theorem dX1_roastForAMinute_90 : decode cX1_roastForAMinute 90 = .ok (.ireturn, 1) := by decide +kernel
theorem dX1_countDone_0 : decode cX1_countDone 0 = .ok (.iconst 0, 1) := by decide +kernel
theorem dX1_countDone_1 : decode cX1_countDone 1 = .ok (.istore_n 1, 1) := by decide +kernel
theorem dX1_countDone_2 : decode cX1_countDone 2 = .ok (.iconst 0, 1) := by decide +kernel
theorem dX1_countDone_3 : decode cX1_countDone 3 = .ok (.istore_n 2, 1) := by decide +kernel
theorem dX1_countDone_4 : decode cX1_countDone 4 = .ok (.iload_n 2, 1) := by decide +kernel
theorem dX1_countDone_5 : decode cX1_countDone 5 = .ok (.aload_n 0, 1) := by decide +kernel
theorem dX1_countDone_6 : decode cX1_countDone 6 = .ok (.getfield 25, 3) := by decide +kernel
theorem dX1_countDone_9 : decode cX1_countDone 9 = .ok (.arraylength, 1) := by decide +kernel
theorem dX1_countDone_10 : decode cX1_countDone 10 = .ok (.if_icmp .ge 32, 3) := by decide +kernel
theorem dX1_countDone_13 : decode cX1_countDone 13 = .ok (.iload_n 2, 1) := by decide +kernel
theorem dX1_countDone_14 : decode cX1_countDone 14 = .ok (.aload_n 0, 1) := by decide +kernel
theorem dX1_countDone_15 : decode cX1_countDone 15 = .ok (.getfield 52, 3) := by decide +kernel
theorem dX1_countDone_18 : decode cX1_countDone 18 = .ok (.if_icmp .ge 24, 3) := by decide +kernel
theorem dX1_countDone_21 : decode cX1_countDone 21 = .ok (.aload_n 0, 1) := by decide +kernel
theorem dX1_countDone_22 : decode cX1_countDone 22 = .ok (.getfield 25, 3) := by decide +kernel
theorem dX1_countDone_25 : decode cX1_countDone 25 = .ok (.iload_n 2, 1) := by decide +kernel
theorem dX1_countDone_26 : decode cX1_countDone 26 = .ok (.aaload, 1) := by decide +kernel
theorem dX1_countDone_27 : decode cX1_countDone 27 = .ok (.invokevirtual 131, 3) := by decide +kernel
theorem dX1_countDone_30 : decode cX1_countDone 30 = .ok (.ifCond .eq 6, 3) := by decide +kernel
theorem dX1_countDone_33 : decode cX1_countDone 33 = .ok (.iinc 1 1, 3) := by decide +kernel
theorem dX1_countDone_36 : decode cX1_countDone 36 = .ok (.iinc 2 1, 3) := by decide +kernel
theorem dX1_countDone_39 : decode cX1_countDone 39 = .ok (.goto (-35), 3) := by decide +kernel
theorem dX1_countDone_42 : decode cX1_countDone 42 = .ok (.iload_n 1, 1) := by decide +kernel
theorem dX1_countDone_43 : decode cX1_countDone 43 = .ok (.ireturn, 1) := by decide +kernel
theorem dX1_sumBrown_0 : decode cX1_sumBrown 0 = .ok (.iconst 0, 1) := by decide +kernel
theorem dX1_sumBrown_1 : decode cX1_sumBrown 1 = .ok (.istore_n 1, 1) := by decide +kernel
theorem dX1_sumBrown_2 : decode cX1_sumBrown 2 = .ok (.iconst 0, 1) := by decide +kernel
theorem dX1_sumBrown_3 : decode cX1_sumBrown 3 = .ok (.istore_n 2, 1) := by decide +kernel
theorem dX1_sumBrown_4 : decode cX1_sumBrown 4 = .ok (.iload_n 2, 1) := by decide +kernel
theorem dX1_sumBrown_5 : decode cX1_sumBrown 5 = .ok (.aload_n 0, 1) := by decide +kernel
theorem dX1_sumBrown_6 : decode cX1_sumBrown 6 = .ok (.getfield 25, 3) := by decide +kernel
theorem dX1_sumBrown_9 : decode cX1_sumBrown 9 = .ok (.arraylength, 1) := by decide +kernel
theorem dX1_sumBrown_10 : decode cX1_sumBrown 10 = .ok (.if_icmp .ge 58, 3) := by decide +kernel
theorem dX1_sumBrown_13 : decode cX1_sumBrown 13 = .ok (.iload_n 2, 1) := by decide +kernel
theorem dX1_sumBrown_14 : decode cX1_sumBrown 14 = .ok (.aload_n 0, 1) := by decide +kernel
theorem dX1_sumBrown_15 : decode cX1_sumBrown 15 = .ok (.getfield 52, 3) := by decide +kernel
theorem dX1_sumBrown_18 : decode cX1_sumBrown 18 = .ok (.if_icmp .ge 50, 3) := by decide +kernel
theorem dX1_sumBrown_21 : decode cX1_sumBrown 21 = .ok (.aload_n 0, 1) := by decide +kernel
theorem dX1_sumBrown_22 : decode cX1_sumBrown 22 = .ok (.getfield 25, 3) := by decide +kernel
theorem dX1_sumBrown_25 : decode cX1_sumBrown 25 = .ok (.iload_n 2, 1) := by decide +kernel
theorem dX1_sumBrown_26 : decode cX1_sumBrown 26 = .ok (.aaload, 1) := by decide +kernel
theorem dX1_sumBrown_27 : decode cX1_sumBrown 27 = .ok (.getfield 134, 3) := by decide +kernel
theorem dX1_sumBrown_30 : decode cX1_sumBrown 30 = .ok (.astore_n 3, 1) := by decide +kernel
theorem dX1_sumBrown_31 : decode cX1_sumBrown 31 = .ok (.aload_n 3, 1) := by decide +kernel
theorem dX1_sumBrown_32 : decode cX1_sumBrown 32 = .ok (.arraylength, 1) := by decide +kernel
theorem dX1_sumBrown_33 : decode cX1_sumBrown 33 = .ok (.istore 4, 2) := by decide +kernel
theorem dX1_sumBrown_35 : decode cX1_sumBrown 35 = .ok (.iconst 0, 1) := by decide +kernel
theorem dX1_sumBrown_36 : decode cX1_sumBrown 36 = .ok (.istore 5, 2) := by decide +kernel
theorem dX1_sumBrown_38 : decode cX1_sumBrown 38 = .ok (.iload 5, 2) := by decide +kernel
theorem dX1_sumBrown_40 : decode cX1_sumBrown 40 = .ok (.iload 4, 2) := by decide +kernel
theorem dX1_sumBrown_42 : decode cX1_sumBrown 42 = .ok (.if_icmp .ge 20, 3) := by decide +kernel
theorem dX1_sumBrown_45 : decode cX1_sumBrown 45 = .ok (.aload_n 3, 1) := by decide +kernel
theorem dX1_sumBrown_46 : decode cX1_sumBrown 46 = .ok (.iload 5, 2) := by decide +kernel
theorem dX1_sumBrown_48 : decode cX1_sumBrown 48 = .ok (.iaload, 1) := by decide +kernel
theorem dX1_sumBrown_49 : decode cX1_sumBrown 49 = .ok (.istore 6, 2) := by decide +kernel
theorem dX1_sumBrown_51 : decode cX1_sumBrown 51 = .ok (.iload_n 1, 1) := by decide +kernel
theorem dX1_sumBrown_52 : decode cX1_sumBrown 52 = .ok (.iload 6, 2) := by decide +kernel
theorem dX1_sumBrown_54 : decode cX1_sumBrown 54 = .ok (.iadd, 1) := by decide +kernel
theorem dX1_sumBrown_55 : decode cX1_sumBrown 55 = .ok (.istore_n 1, 1) := by decide +kernel
theorem dX1_sumBrown_56 : decode cX1_sumBrown 56 = .ok (.iinc 5 1, 3) := by decide +kernel
theorem dX1_sumBrown_59 : decode cX1_sumBrown 59 = .ok (.goto (-21), 3) := by decide +kernel
theorem dX1_sumBrown_62 : decode cX1_sumBrown 62 = .ok (.iinc 2 1, 3) := by decide +kernel
theorem dX1_sumBrown_65 : decode cX1_sumBrown 65 = .ok (.goto (-61), 3) := by decide +kernel
theorem dX1_sumBrown_68 : decode cX1_sumBrown 68 = .ok (.iload_n 1, 1) := by decide +kernel
theorem dX1_sumBrown_69 : decode cX1_sumBrown 69 = .ok (.ireturn, 1) := by decide +kernel
theorem dX2_init_0 : decode cX2_init 0 = .ok (.aload_n 0, 1) := by decide +kernel
theorem dX2_init_1 : decode cX2_init 1 = .ok (.invokespecial 3, 3) := by decide +kernel
theorem dX2_init_4 : decode cX2_init 4 = .ok (.aload_n 0, 1) := by decide +kernel
theorem dX2_init_5 : decode cX2_init 5 = .ok (.iconst 4, 1) := by decide +kernel
theorem dX2_init_6 : decode cX2_init 6 = .ok (.newarray .int, 2) := by decide +kernel
theorem dX2_init_8 : decode cX2_init 8 = .ok (.putfield 9, 3) := by decide +kernel
theorem dX2_init_11 : decode cX2_init 11 = .ok (.aload_n 0, 1) := by decide +kernel
theorem dX2_init_12 : decode cX2_init 12 = .ok (.iconst (-1), 1) := by decide +kernel
theorem dX2_init_13 : decode cX2_init 13 = .ok (.putfield 15, 3) := by decide +kernel
theorem dX2_init_16 : decode cX2_init 16 = .ok (.return_, 1) := by decide +kernel
theorem dX2_copyFrom_0 : decode cX2_copyFrom 0 = .ok (.aload_n 0, 1) := by decide +kernel
theorem dX2_copyFrom_1 : decode cX2_copyFrom 1 = .ok (.aload_n 1, 1) := by decide +kernel
theorem dX2_copyFrom_2 : decode cX2_copyFrom 2 = .ok (.getfield 19, 3) := by decide +kernel
theorem dX2_copyFrom_5 : decode cX2_copyFrom 5 = .ok (.putfield 19, 3) := by decide +kernel
theorem dX2_copyFrom_8 : decode cX2_copyFrom 8 = .ok (.aload_n 0, 1) := by decide +kernel
theorem dX2_copyFrom_9 : decode cX2_copyFrom 9 = .ok (.aload_n 1, 1) := by decide +kernel
theorem dX2_copyFrom_10 : decode cX2_copyFrom 10 = .ok (.getfield 15, 3) := by decide +kernel
theorem dX2_copyFrom_13 : decode cX2_copyFrom 13 = .ok (.putfield 15, 3) := by decide +kernel
theorem dX2_copyFrom_16 : decode cX2_copyFrom 16 = .ok (.aload_n 0, 1) := by decide +kernel
theorem dX2_copyFrom_17 : decode cX2_copyFrom 17 = .ok (.aload_n 1, 1) := by decide +kernel
theorem dX2_copyFrom_18 : decode cX2_copyFrom 18 = .ok (.getfield 22, 3) := by decide +kernel
theorem dX2_copyFrom_21 : decode cX2_copyFrom 21 = .ok (.putfield 22, 3) := by decide +kernel
theorem dX2_copyFrom_24 : decode cX2_copyFrom 24 = .ok (.aload_n 0, 1) := by decide +kernel
theorem dX2_copyFrom_25 : decode cX2_copyFrom 25 = .ok (.aload_n 1, 1) := by decide +kernel
theorem dX2_copyFrom_26 : decode cX2_copyFrom 26 = .ok (.getfield 25, 3) := by decide +kernel
theorem dX2_copyFrom_29 : decode cX2_copyFrom 29 = .ok (.putfield 25, 3) := by decide +kernel
theorem dX2_copyFrom_32 : decode cX2_copyFrom 32 = .ok (.aload_n 0, 1) := by decide +kernel
theorem dX2_copyFrom_33 : decode cX2_copyFrom 33 = .ok (.aload_n 1, 1) := by decide +kernel
theorem dX2_copyFrom_34 : decode cX2_copyFrom 34 = .ok (.getfield 28, 3) := by decide +kernel
theorem dX2_copyFrom_37 : decode cX2_copyFrom 37 = .ok (.putfield 28, 3) := by decide +kernel
theorem dX2_copyFrom_40 : decode cX2_copyFrom 40 = .ok (.iconst 0, 1) := by decide +kernel
theorem dX2_copyFrom_41 : decode cX2_copyFrom 41 = .ok (.istore_n 2, 1) := by decide +kernel
theorem dX2_copyFrom_42 : decode cX2_copyFrom 42 = .ok (.iload_n 2, 1) := by decide +kernel
theorem dX2_copyFrom_43 : decode cX2_copyFrom 43 = .ok (.aload_n 0, 1) := by decide +kernel
theorem dX2_copyFrom_44 : decode cX2_copyFrom 44 = .ok (.getfield 9, 3) := by decide +kernel
theorem dX2_copyFrom_47 : decode cX2_copyFrom 47 = .ok (.arraylength, 1) := by decide +kernel
theorem dX2_copyFrom_48 : decode cX2_copyFrom 48 = .ok (.if_icmp .ge 30, 3) := by decide +kernel
theorem dX2_copyFrom_51 : decode cX2_copyFrom 51 = .ok (.iload_n 2, 1) := by decide +kernel
theorem dX2_copyFrom_52 : decode cX2_copyFrom 52 = .ok (.aload_n 1, 1) := by decide +kernel
theorem dX2_copyFrom_53 : decode cX2_copyFrom 53 = .ok (.getfield 9, 3) := by decide +kernel
theorem dX2_copyFrom_56 : decode cX2_copyFrom 56 = .ok (.arraylength, 1) := by decide +kernel
theorem dX2_copyFrom_57 : decode cX2_copyFrom 57 = .ok (.if_icmp .ge 21, 3) := by decide +kernel
theorem dX2_copyFrom_60 : decode cX2_copyFrom 60 = .ok (.aload_n 0, 1) := by decide +kernel
theorem dX2_copyFrom_61 : decode cX2_copyFrom 61 = .ok (.getfield 9, 3) := by decide +kernel
theorem dX2_copyFrom_64 : decode cX2_copyFrom 64 = .ok (.iload_n 2, 1) := by decide +kernel
theorem dX2_copyFrom_65 : decode cX2_copyFrom 65 = .ok (.aload_n 1, 1) := by decide +kernel
theorem dX2_copyFrom_66 : decode cX2_copyFrom 66 = .ok (.getfield 9, 3) := by decide +kernel
theorem dX2_copyFrom_69 : decode cX2_copyFrom 69 = .ok (.iload_n 2, 1) := by decide +kernel
theorem dX2_copyFrom_70 : decode cX2_copyFrom 70 = .ok (.iaload, 1) := by decide +kernel
theorem dX2_copyFrom_71 : decode cX2_copyFrom 71 = .ok (.iastore, 1) := by decide +kernel
theorem dX2_copyFrom_72 : decode cX2_copyFrom 72 = .ok (.iinc 2 1, 3) := by decide +kernel
theorem dX2_copyFrom_75 : decode cX2_copyFrom 75 = .ok (.goto (-33), 3) := by decide +kernel
theorem dX2_copyFrom_78 : decode cX2_copyFrom 78 = .ok (.return_, 1) := by decide +kernel
theorem dX2_getGlow_0 : decode cX2_getGlow 0 = .ok (.iload_n 1, 1) := by decide +kernel
theorem dX2_getGlow_1 : decode cX2_getGlow 1 = .ok (.istore_n 2, 1) := by decide +kernel
theorem dX2_getGlow_2 : decode cX2_getGlow 2 = .ok (.aload_n 0, 1) := by decide +kernel
theorem dX2_getGlow_3 : decode cX2_getGlow 3 = .ok (.getfield 28, 3) := by decide +kernel
theorem dX2_getGlow_6 : decode cX2_getGlow 6 = .ok (.ifCond .le 21, 3) := by decide +kernel
theorem dX2_getGlow_9 : decode cX2_getGlow 9 = .ok (.iconst 0, 1) := by decide +kernel
theorem dX2_getGlow_10 : decode cX2_getGlow 10 = .ok (.iload_n 1, 1) := by decide +kernel
theorem dX2_getGlow_11 : decode cX2_getGlow 11 = .ok (.iconst 1, 1) := by decide +kernel
theorem dX2_getGlow_12 : decode cX2_getGlow 12 = .ok (.isub, 1) := by decide +kernel
theorem dX2_getGlow_13 : decode cX2_getGlow 13 = .ok (.invokestatic 31, 3) := by decide +kernel
theorem dX2_getGlow_16 : decode cX2_getGlow 16 = .ok (.istore_n 2, 1) := by decide +kernel
theorem dX2_getGlow_17 : decode cX2_getGlow 17 = .ok (.aload_n 0, 1) := by decide +kernel
theorem dX2_getGlow_18 : decode cX2_getGlow 18 = .ok (.dup, 1) := by decide +kernel
theorem dX2_getGlow_19 : decode cX2_getGlow 19 = .ok (.getfield 28, 3) := by decide +kernel
theorem dX2_getGlow_22 : decode cX2_getGlow 22 = .ok (.iconst 1, 1) := by decide +kernel
theorem dX2_getGlow_23 : decode cX2_getGlow 23 = .ok (.isub, 1) := by decide +kernel
theorem dX2_getGlow_24 : decode cX2_getGlow 24 = .ok (.putfield 28, 3) := by decide +kernel
theorem dX2_getGlow_27 : decode cX2_getGlow 27 = .ok (.aload_n 0, 1) := by decide +kernel
theorem dX2_getGlow_28 : decode cX2_getGlow 28 = .ok (.aload_n 0, 1) := by decide +kernel
theorem dX2_getGlow_29 : decode cX2_getGlow 29 = .ok (.getfield 22, 3) := by decide +kernel
theorem dX2_getGlow_32 : decode cX2_getGlow 32 = .ok (.iload_n 2, 1) := by decide +kernel
theorem dX2_getGlow_33 : decode cX2_getGlow 33 = .ok (.invokevirtual 37, 3) := by decide +kernel
theorem dX2_getGlow_36 : decode cX2_getGlow 36 = .ok (.aload_n 0, 1) := by decide +kernel
theorem dX2_getGlow_37 : decode cX2_getGlow 37 = .ok (.aload_n 0, 1) := by decide +kernel
theorem dX2_getGlow_38 : decode cX2_getGlow 38 = .ok (.getfield 22, 3) := by decide +kernel
theorem dX2_getGlow_41 : decode cX2_getGlow 41 = .ok (.invokestatic 41, 3) := by decide +kernel
theorem dX2_getGlow_44 : decode cX2_getGlow 44 = .ok (.iload_n 2, 1) := by decide +kernel
theorem dX2_getGlow_45 : decode cX2_getGlow 45 = .ok (.iconst 3, 1) := by decide +kernel
theorem dX2_getGlow_46 : decode cX2_getGlow 46 = .ok (.idiv, 1) := by decide +kernel
theorem dX2_getGlow_47 : decode cX2_getGlow 47 = .ok (.invokevirtual 37, 3) := by decide +kernel
theorem dX2_getGlow_50 : decode cX2_getGlow 50 = .ok (.aload_n 0, 1) := by decide +kernel
theorem dX2_getGlow_51 : decode cX2_getGlow 51 = .ok (.aload_n 0, 1) := by decide +kernel
theorem dX2_getGlow_52 : decode cX2_getGlow 52 = .ok (.getfield 22, 3) := by decide +kernel
theorem dX2_getGlow_55 : decode cX2_getGlow 55 = .ok (.invokestatic 45, 3) := by decide +kernel
theorem dX2_getGlow_58 : decode cX2_getGlow 58 = .ok (.iload_n 2, 1) := by decide +kernel
theorem dX2_getGlow_59 : decode cX2_getGlow 59 = .ok (.iconst 3, 1) := by decide +kernel
theorem dX2_getGlow_60 : decode cX2_getGlow 60 = .ok (.idiv, 1) := by decide +kernel
theorem dX2_getGlow_61 : decode cX2_getGlow 61 = .ok (.invokevirtual 37, 3) := by decide +kernel
theorem dX2_getGlow_64 : decode cX2_getGlow 64 = .ok (.iload_n 2, 1) := by decide +kernel
theorem dX2_getGlow_65 : decode cX2_getGlow 65 = .ok (.ireturn, 1) := by decide +kernel
theorem dX2_getBrowner_0 : decode cX2_getBrowner 0 = .ok (.iload_n 1, 1) := by decide +kernel
theorem dX2_getBrowner_1 : decode cX2_getBrowner 1 = .ok (.ifCond .lt 39, 3) := by decide +kernel
theorem dX2_getBrowner_4 : decode cX2_getBrowner 4 = .ok (.iload_n 1, 1) := by decide +kernel
theorem dX2_getBrowner_5 : decode cX2_getBrowner 5 = .ok (.aload_n 0, 1) := by decide +kernel
theorem dX2_getBrowner_6 : decode cX2_getBrowner 6 = .ok (.getfield 9, 3) := by decide +kernel
theorem dX2_getBrowner_9 : decode cX2_getBrowner 9 = .ok (.arraylength, 1) := by decide +kernel
theorem dX2_getBrowner_10 : decode cX2_getBrowner 10 = .ok (.if_icmp .ge 30, 3) := by decide +kernel
theorem dX2_getBrowner_13 : decode cX2_getBrowner 13 = .ok (.aload_n 0, 1) := by decide +kernel
theorem dX2_getBrowner_14 : decode cX2_getBrowner 14 = .ok (.getfield 9, 3) := by decide +kernel
theorem dX2_getBrowner_17 : decode cX2_getBrowner 17 = .ok (.iload_n 1, 1) := by decide +kernel
theorem dX2_getBrowner_18 : decode cX2_getBrowner 18 = .ok (.iaload, 1) := by decide +kernel
theorem dX2_getBrowner_19 : decode cX2_getBrowner 19 = .ok (.iload_n 2, 1) := by decide +kernel
theorem dX2_getBrowner_20 : decode cX2_getBrowner 20 = .ok (.iadd, 1) := by decide +kernel
theorem dX2_getBrowner_21 : decode cX2_getBrowner 21 = .ok (.istore_n 3, 1) := by decide +kernel
theorem dX2_getBrowner_22 : decode cX2_getBrowner 22 = .ok (.aload_n 0, 1) := by decide +kernel
theorem dX2_getBrowner_23 : decode cX2_getBrowner 23 = .ok (.getfield 9, 3) := by decide +kernel
theorem dX2_getBrowner_26 : decode cX2_getBrowner 26 = .ok (.iload_n 1, 1) := by decide +kernel
theorem dX2_getBrowner_27 : decode cX2_getBrowner 27 = .ok (.iload_n 3, 1) := by decide +kernel
theorem dX2_getBrowner_28 : decode cX2_getBrowner 28 = .ok (.bipush 99, 2) := by decide +kernel
theorem dX2_getBrowner_30 : decode cX2_getBrowner 30 = .ok (.if_icmp .le 8, 3) := by decide +kernel
theorem dX2_getBrowner_33 : decode cX2_getBrowner 33 = .ok (.bipush 99, 2) := by decide +kernel
theorem dX2_getBrowner_35 : decode cX2_getBrowner 35 = .ok (.goto 4, 3) := by decide +kernel
theorem dX2_getBrowner_38 : decode cX2_getBrowner 38 = .ok (.iload_n 3, 1) := by decide +kernel
theorem dX2_getBrowner_39 : decode cX2_getBrowner 39 = .ok (.iastore, 1) := by decide +kernel
theorem dX2_getBrowner_40 : decode cX2_getBrowner 40 = .ok (.return_, 1) := by decide +kernel
theorem dX2_drips_0 : decode cX2_drips 0 = .ok (.iload_n 1, 1) := by decide +kernel
theorem dX2_drips_1 : decode cX2_drips 1 = .ok (.iconst 2, 1) := by decide +kernel
theorem dX2_drips_2 : decode cX2_drips 2 = .ok (.if_icmp .lt 10, 3) := by decide +kernel
theorem dX2_drips_5 : decode cX2_drips 5 = .ok (.aload_n 0, 1) := by decide +kernel
theorem dX2_drips_6 : decode cX2_drips 6 = .ok (.getfield 25, 3) := by decide +kernel
theorem dX2_drips_9 : decode cX2_drips 9 = .ok (.ifCond .gt 5, 3) := by decide +kernel
theorem dX2_drips_12 : decode cX2_drips 12 = .ok (.iconst 0, 1) := by decide +kernel
theorem dX2_drips_13 : decode cX2_drips 13 = .ok (.ireturn, 1) := by decide +kernel
theorem dX2_drips_14 : decode cX2_drips 14 = .ok (.aload_n 0, 1) := by decide +kernel
theorem dX2_drips_15 : decode cX2_drips 15 = .ok (.dup, 1) := by decide +kernel
theorem dX2_drips_16 : decode cX2_drips 16 = .ok (.getfield 25, 3) := by decide +kernel
theorem dX2_drips_19 : decode cX2_drips 19 = .ok (.iconst 1, 1) := by decide +kernel
theorem dX2_drips_20 : decode cX2_drips 20 = .ok (.isub, 1) := by decide +kernel
theorem dX2_drips_21 : decode cX2_drips 21 = .ok (.putfield 25, 3) := by decide +kernel
theorem dX2_drips_24 : decode cX2_drips 24 = .ok (.iconst 1, 1) := by decide +kernel
theorem dX2_drips_25 : decode cX2_drips 25 = .ok (.ireturn, 1) := by decide +kernel
theorem dX2_turn_0 : decode cX2_turn 0 = .ok (.aload_n 0, 1) := by decide +kernel
theorem dX2_turn_1 : decode cX2_turn 1 = .ok (.aload_n 0, 1) := by decide +kernel
theorem dX2_turn_2 : decode cX2_turn 2 = .ok (.getfield 22, 3) := by decide +kernel
theorem dX2_turn_5 : decode cX2_turn 5 = .ok (.invokestatic 41, 3) := by decide +kernel
theorem dX2_turn_8 : decode cX2_turn 8 = .ok (.putfield 22, 3) := by decide +kernel
theorem dX2_turn_11 : decode cX2_turn 11 = .ok (.return_, 1) := by decide +kernel
theorem dX2_done_0 : decode cX2_done 0 = .ok (.aload_n 0, 1) := by decide +kernel
theorem dX2_done_1 : decode cX2_done 1 = .ok (.getfield 9, 3) := by decide +kernel
theorem dX2_done_4 : decode cX2_done 4 = .ok (.astore_n 1, 1) := by decide +kernel
theorem dX2_done_5 : decode cX2_done 5 = .ok (.aload_n 1, 1) := by decide +kernel
theorem dX2_done_6 : decode cX2_done 6 = .ok (.arraylength, 1) := by decide +kernel
theorem dX2_done_7 : decode cX2_done 7 = .ok (.istore_n 2, 1) := by decide +kernel
theorem dX2_done_8 : decode cX2_done 8 = .ok (.iconst 0, 1) := by decide +kernel
theorem dX2_done_9 : decode cX2_done 9 = .ok (.istore_n 3, 1) := by decide +kernel
theorem dX2_done_10 : decode cX2_done 10 = .ok (.iload_n 3, 1) := by decide +kernel
theorem dX2_done_11 : decode cX2_done 11 = .ok (.iload_n 2, 1) := by decide +kernel
theorem dX2_done_12 : decode cX2_done 12 = .ok (.if_icmp .ge 41, 3) := by decide +kernel
theorem dX2_done_15 : decode cX2_done 15 = .ok (.aload_n 1, 1) := by decide +kernel
theorem dX2_done_16 : decode cX2_done 16 = .ok (.iload_n 3, 1) := by decide +kernel
theorem dX2_done_17 : decode cX2_done 17 = .ok (.iaload, 1) := by decide +kernel
theorem dX2_done_18 : decode cX2_done 18 = .ok (.istore 4, 2) := by decide +kernel
theorem dX2_done_20 : decode cX2_done 20 = .ok (.iload 4, 2) := by decide +kernel
theorem dX2_done_22 : decode cX2_done 22 = .ok (.iconst 3, 1) := by decide +kernel
theorem dX2_done_23 : decode cX2_done 23 = .ok (.aload_n 0, 1) := by decide +kernel
theorem dX2_done_24 : decode cX2_done 24 = .ok (.getfield 19, 3) := by decide +kernel
theorem dX2_done_27 : decode cX2_done 27 = .ok (.imul, 1) := by decide +kernel
theorem dX2_done_28 : decode cX2_done 28 = .ok (.if_icmp .lt 17, 3) := by decide +kernel
theorem dX2_done_31 : decode cX2_done 31 = .ok (.iload 4, 2) := by decide +kernel
theorem dX2_done_33 : decode cX2_done 33 = .ok (.iconst 3, 1) := by decide +kernel
theorem dX2_done_34 : decode cX2_done 34 = .ok (.aload_n 0, 1) := by decide +kernel
theorem dX2_done_35 : decode cX2_done 35 = .ok (.getfield 19, 3) := by decide +kernel
theorem dX2_done_38 : decode cX2_done 38 = .ok (.imul, 1) := by decide +kernel
theorem dX2_done_39 : decode cX2_done 39 = .ok (.bipush 30, 2) := by decide +kernel
theorem dX2_done_41 : decode cX2_done 41 = .ok (.iadd, 1) := by decide +kernel
theorem dX2_done_42 : decode cX2_done 42 = .ok (.if_icmp .le 5, 3) := by decide +kernel
theorem dX2_done_45 : decode cX2_done 45 = .ok (.iconst 0, 1) := by decide +kernel
theorem dX2_done_46 : decode cX2_done 46 = .ok (.ireturn, 1) := by decide +kernel
theorem dX2_done_47 : decode cX2_done 47 = .ok (.iinc 3 1, 3) := by decide +kernel
theorem dX2_done_50 : decode cX2_done 50 = .ok (.goto (-40), 3) := by decide +kernel
theorem dX2_done_53 : decode cX2_done 53 = .ok (.iconst 1, 1) := by decide +kernel
theorem dX2_done_54 : decode cX2_done 54 = .ok (.ireturn, 1) := by decide +kernel
theorem dX2_burnt_0 : decode cX2_burnt 0 = .ok (.aload_n 0, 1) := by decide +kernel
theorem dX2_burnt_1 : decode cX2_burnt 1 = .ok (.getfield 9, 3) := by decide +kernel
theorem dX2_burnt_4 : decode cX2_burnt 4 = .ok (.astore_n 1, 1) := by decide +kernel
theorem dX2_burnt_5 : decode cX2_burnt 5 = .ok (.aload_n 1, 1) := by decide +kernel
theorem dX2_burnt_6 : decode cX2_burnt 6 = .ok (.arraylength, 1) := by decide +kernel
theorem dX2_burnt_7 : decode cX2_burnt 7 = .ok (.istore_n 2, 1) := by decide +kernel
theorem dX2_burnt_8 : decode cX2_burnt 8 = .ok (.iconst 0, 1) := by decide +kernel
theorem dX2_burnt_9 : decode cX2_burnt 9 = .ok (.istore_n 3, 1) := by decide +kernel
theorem dX2_burnt_10 : decode cX2_burnt 10 = .ok (.iload_n 3, 1) := by decide +kernel
theorem dX2_burnt_11 : decode cX2_burnt 11 = .ok (.iload_n 2, 1) := by decide +kernel
theorem dX2_burnt_12 : decode cX2_burnt 12 = .ok (.if_icmp .ge 30, 3) := by decide +kernel
theorem dX2_burnt_15 : decode cX2_burnt 15 = .ok (.aload_n 1, 1) := by decide +kernel
theorem dX2_burnt_16 : decode cX2_burnt 16 = .ok (.iload_n 3, 1) := by decide +kernel
theorem dX2_burnt_17 : decode cX2_burnt 17 = .ok (.iaload, 1) := by decide +kernel
theorem dX2_burnt_18 : decode cX2_burnt 18 = .ok (.istore 4, 2) := by decide +kernel
theorem dX2_burnt_20 : decode cX2_burnt 20 = .ok (.iload 4, 2) := by decide +kernel
theorem dX2_burnt_22 : decode cX2_burnt 22 = .ok (.iconst 3, 1) := by decide +kernel
theorem dX2_burnt_23 : decode cX2_burnt 23 = .ok (.aload_n 0, 1) := by decide +kernel
theorem dX2_burnt_24 : decode cX2_burnt 24 = .ok (.getfield 19, 3) := by decide +kernel
theorem dX2_burnt_27 : decode cX2_burnt 27 = .ok (.imul, 1) := by decide +kernel
theorem dX2_burnt_28 : decode cX2_burnt 28 = .ok (.bipush 30, 2) := by decide +kernel
theorem dX2_burnt_30 : decode cX2_burnt 30 = .ok (.iadd, 1) := by decide +kernel
theorem dX2_burnt_31 : decode cX2_burnt 31 = .ok (.if_icmp .le 5, 3) := by decide +kernel
theorem dX2_burnt_34 : decode cX2_burnt 34 = .ok (.iconst 1, 1) := by decide +kernel
theorem dX2_burnt_35 : decode cX2_burnt 35 = .ok (.ireturn, 1) := by decide +kernel
theorem dX2_burnt_36 : decode cX2_burnt 36 = .ok (.iinc 3 1, 3) := by decide +kernel
theorem dX2_burnt_39 : decode cX2_burnt 39 = .ok (.goto (-29), 3) := by decide +kernel
theorem dX2_burnt_42 : decode cX2_burnt 42 = .ok (.iconst 0, 1) := by decide +kernel
theorem dX2_burnt_43 : decode cX2_burnt 43 = .ok (.ireturn, 1) := by decide +kernel
theorem dX2_nextSide_0 : decode cX2_nextSide 0 = .ok (.iload_n 0, 1) := by decide +kernel
theorem dX2_nextSide_1 : decode cX2_nextSide 1 = .ok (.iconst 3, 1) := by decide +kernel
theorem dX2_nextSide_2 : decode cX2_nextSide 2 = .ok (.if_icmp .lt 7, 3) := by decide +kernel
theorem dX2_nextSide_5 : decode cX2_nextSide 5 = .ok (.iconst 0, 1) := by decide +kernel
theorem dX2_nextSide_6 : decode cX2_nextSide 6 = .ok (.goto 6, 3) := by decide +kernel
theorem dX2_nextSide_9 : decode cX2_nextSide 9 = .ok (.iload_n 0, 1) := by decide +kernel
theorem dX2_nextSide_10 : decode cX2_nextSide 10 = .ok (.iconst 1, 1) := by decide +kernel
theorem dX2_nextSide_11 : decode cX2_nextSide 11 = .ok (.iadd, 1) := by decide +kernel
theorem dX2_nextSide_12 : decode cX2_nextSide 12 = .ok (.ireturn, 1) := by decide +kernel
theorem dX2_sideBefore_0 : decode cX2_sideBefore 0 = .ok (.iload_n 0, 1) := by decide +kernel
theorem dX2_sideBefore_1 : decode cX2_sideBefore 1 = .ok (.ifCond .gt 7, 3) := by decide +kernel
theorem dX2_sideBefore_4 : decode cX2_sideBefore 4 = .ok (.iconst 3, 1) := by decide +kernel
theorem dX2_sideBefore_5 : decode cX2_sideBefore 5 = .ok (.goto 6, 3) := by decide +kernel
theorem dX2_sideBefore_8 : decode cX2_sideBefore 8 = .ok (.iload_n 0, 1) := by decide +kernel
theorem dX2_sideBefore_9 : decode cX2_sideBefore 9 = .ok (.iconst 1, 1) := by decide +kernel
theorem dX2_sideBefore_10 : decode cX2_sideBefore 10 = .ok (.isub, 1) := by decide +kernel
theorem dX2_sideBefore_11 : decode cX2_sideBefore 11 = .ok (.ireturn, 1) := by decide +kernel
theorem dX3_init_0 : decode cX3_init 0 = .ok (.aload_n 0, 1) := by decide +kernel
theorem dX3_init_1 : decode cX3_init 1 = .ok (.invokespecial 3, 3) := by decide +kernel
theorem dX3_init_4 : decode cX3_init 4 = .ok (.aload_n 0, 1) := by decide +kernel
theorem dX3_init_5 : decode cX3_init 5 = .ok (.iconst (-1), 1) := by decide +kernel
theorem dX3_init_6 : decode cX3_init 6 = .ok (.putfield 9, 3) := by decide +kernel
theorem dX3_init_9 : decode cX3_init 9 = .ok (.return_, 1) := by decide +kernel
theorem dX3_copyFrom_0 : decode cX3_copyFrom 0 = .ok (.aload_n 0, 1) := by decide +kernel
theorem dX3_copyFrom_1 : decode cX3_copyFrom 1 = .ok (.aload_n 1, 1) := by decide +kernel
theorem dX3_copyFrom_2 : decode cX3_copyFrom 2 = .ok (.getfield 15, 3) := by decide +kernel
theorem dX3_copyFrom_5 : decode cX3_copyFrom 5 = .ok (.putfield 15, 3) := by decide +kernel
theorem dX3_copyFrom_8 : decode cX3_copyFrom 8 = .ok (.aload_n 0, 1) := by decide +kernel
theorem dX3_copyFrom_9 : decode cX3_copyFrom 9 = .ok (.aload_n 1, 1) := by decide +kernel
theorem dX3_copyFrom_10 : decode cX3_copyFrom 10 = .ok (.getfield 18, 3) := by decide +kernel
theorem dX3_copyFrom_13 : decode cX3_copyFrom 13 = .ok (.putfield 18, 3) := by decide +kernel
theorem dX3_copyFrom_16 : decode cX3_copyFrom 16 = .ok (.aload_n 0, 1) := by decide +kernel
theorem dX3_copyFrom_17 : decode cX3_copyFrom 17 = .ok (.aload_n 1, 1) := by decide +kernel
theorem dX3_copyFrom_18 : decode cX3_copyFrom 18 = .ok (.getfield 21, 3) := by decide +kernel
theorem dX3_copyFrom_21 : decode cX3_copyFrom 21 = .ok (.putfield 21, 3) := by decide +kernel
theorem dX3_copyFrom_24 : decode cX3_copyFrom 24 = .ok (.aload_n 0, 1) := by decide +kernel
theorem dX3_copyFrom_25 : decode cX3_copyFrom 25 = .ok (.aload_n 1, 1) := by decide +kernel
theorem dX3_copyFrom_26 : decode cX3_copyFrom 26 = .ok (.getfield 24, 3) := by decide +kernel
theorem dX3_copyFrom_29 : decode cX3_copyFrom 29 = .ok (.putfield 24, 3) := by decide +kernel
theorem dX3_copyFrom_32 : decode cX3_copyFrom 32 = .ok (.aload_n 0, 1) := by decide +kernel
theorem dX3_copyFrom_33 : decode cX3_copyFrom 33 = .ok (.aload_n 1, 1) := by decide +kernel
theorem dX3_copyFrom_34 : decode cX3_copyFrom 34 = .ok (.getfield 27, 3) := by decide +kernel
theorem dX3_copyFrom_37 : decode cX3_copyFrom 37 = .ok (.putfield 27, 3) := by decide +kernel
theorem dX3_copyFrom_40 : decode cX3_copyFrom 40 = .ok (.aload_n 0, 1) := by decide +kernel
theorem dX3_copyFrom_41 : decode cX3_copyFrom 41 = .ok (.aload_n 1, 1) := by decide +kernel
theorem dX3_copyFrom_42 : decode cX3_copyFrom 42 = .ok (.getfield 9, 3) := by decide +kernel
theorem dX3_copyFrom_45 : decode cX3_copyFrom 45 = .ok (.putfield 9, 3) := by decide +kernel
theorem dX3_copyFrom_48 : decode cX3_copyFrom 48 = .ok (.return_, 1) := by decide +kernel
theorem dX3_countAnew_0 : decode cX3_countAnew 0 = .ok (.aload_n 0, 1) := by decide +kernel
theorem dX3_countAnew_1 : decode cX3_countAnew 1 = .ok (.iload_n 1, 1) := by decide +kernel
theorem dX3_countAnew_2 : decode cX3_countAnew 2 = .ok (.putfield 21, 3) := by decide +kernel
theorem dX3_countAnew_5 : decode cX3_countAnew 5 = .ok (.aload_n 0, 1) := by decide +kernel
theorem dX3_countAnew_6 : decode cX3_countAnew 6 = .ok (.iconst 0, 1) := by decide +kernel
theorem dX3_countAnew_7 : decode cX3_countAnew 7 = .ok (.putfield 24, 3) := by decide +kernel
theorem dX3_countAnew_10 : decode cX3_countAnew 10 = .ok (.return_, 1) := by decide +kernel
theorem dX3_countsToTurn_0 : decode cX3_countsToTurn 0 = .ok (.aload_n 0, 1) := by decide +kernel
theorem dX3_countsToTurn_1 : decode cX3_countsToTurn 1 = .ok (.dup, 1) := by decide +kernel
theorem dX3_countsToTurn_2 : decode cX3_countsToTurn 2 = .ok (.getfield 24, 3) := by decide +kernel
theorem dX3_countsToTurn_5 : decode cX3_countsToTurn 5 = .ok (.iconst 1, 1) := by decide +kernel
theorem dX3_countsToTurn_6 : decode cX3_countsToTurn 6 = .ok (.iadd, 1) := by decide +kernel
theorem dX3_countsToTurn_7 : decode cX3_countsToTurn 7 = .ok (.putfield 24, 3) := by decide +kernel
theorem dX3_countsToTurn_10 : decode cX3_countsToTurn 10 = .ok (.aload_n 0, 1) := by decide +kernel
theorem dX3_countsToTurn_11 : decode cX3_countsToTurn 11 = .ok (.getfield 21, 3) := by decide +kernel
theorem dX3_countsToTurn_14 : decode cX3_countsToTurn 14 = .ok (.ifCond .le 19, 3) := by decide +kernel
theorem dX3_countsToTurn_17 : decode cX3_countsToTurn 17 = .ok (.aload_n 0, 1) := by decide +kernel
theorem dX3_countsToTurn_18 : decode cX3_countsToTurn 18 = .ok (.getfield 24, 3) := by decide +kernel
theorem dX3_countsToTurn_21 : decode cX3_countsToTurn 21 = .ok (.aload_n 0, 1) := by decide +kernel
theorem dX3_countsToTurn_22 : decode cX3_countsToTurn 22 = .ok (.getfield 21, 3) := by decide +kernel
theorem dX3_countsToTurn_25 : decode cX3_countsToTurn 25 = .ok (.irem, 1) := by decide +kernel
theorem dX3_countsToTurn_26 : decode cX3_countsToTurn 26 = .ok (.ifCond .ne 7, 3) := by decide +kernel
theorem dX3_countsToTurn_29 : decode cX3_countsToTurn 29 = .ok (.iconst 1, 1) := by decide +kernel
theorem dX3_countsToTurn_30 : decode cX3_countsToTurn 30 = .ok (.goto 4, 3) := by decide +kernel
theorem dX3_countsToTurn_33 : decode cX3_countsToTurn 33 = .ok (.iconst 0, 1) := by decide +kernel
theorem dX3_countsToTurn_34 : decode cX3_countsToTurn 34 = .ok (.ireturn, 1) := by decide +kernel
theorem dX3_takesDripping_0 : decode cX3_takesDripping 0 = .ok (.aload_n 0, 1) := by decide +kernel
theorem dX3_takesDripping_1 : decode cX3_takesDripping 1 = .ok (.getfield 27, 3) := by decide +kernel
theorem dX3_takesDripping_4 : decode cX3_takesDripping 4 = .ok (.bipush 20, 2) := by decide +kernel
theorem dX3_takesDripping_6 : decode cX3_takesDripping 6 = .ok (.if_icmp .lt 5, 3) := by decide +kernel
theorem dX3_takesDripping_9 : decode cX3_takesDripping 9 = .ok (.iconst 0, 1) := by decide +kernel
theorem dX3_takesDripping_10 : decode cX3_takesDripping 10 = .ok (.ireturn, 1) := by decide +kernel
theorem dX3_takesDripping_11 : decode cX3_takesDripping 11 = .ok (.aload_n 0, 1) := by decide +kernel
theorem dX3_takesDripping_12 : decode cX3_takesDripping 12 = .ok (.dup, 1) := by decide +kernel
theorem dX3_takesDripping_13 : decode cX3_takesDripping 13 = .ok (.getfield 27, 3) := by decide +kernel
theorem dX3_takesDripping_16 : decode cX3_takesDripping 16 = .ok (.iconst 1, 1) := by decide +kernel
theorem dX3_takesDripping_17 : decode cX3_takesDripping 17 = .ok (.iadd, 1) := by decide +kernel
theorem dX3_takesDripping_18 : decode cX3_takesDripping 18 = .ok (.putfield 27, 3) := by decide +kernel
theorem dX3_takesDripping_21 : decode cX3_takesDripping 21 = .ok (.iconst 1, 1) := by decide +kernel
theorem dX3_takesDripping_22 : decode cX3_takesDripping 22 = .ok (.ireturn, 1) := by decide +kernel
theorem dX4_init_0 : decode cX4_init 0 = .ok (.aload_n 0, 1) := by decide +kernel
theorem dX4_init_1 : decode cX4_init 1 = .ok (.invokespecial 1, 3) := by decide +kernel
theorem dX4_init_4 : decode cX4_init 4 = .ok (.aload_n 0, 1) := by decide +kernel
theorem dX4_init_5 : decode cX4_init 5 = .ok (.new 7, 3) := by decide +kernel
theorem dX4_init_8 : decode cX4_init 8 = .ok (.dup, 1) := by decide +kernel
theorem dX4_init_9 : decode cX4_init 9 = .ok (.invokespecial 9, 3) := by decide +kernel
theorem dX4_init_12 : decode cX4_init 12 = .ok (.putfield 10, 3) := by decide +kernel
theorem dX4_init_15 : decode cX4_init 15 = .ok (.aload_n 0, 1) := by decide +kernel
theorem dX4_init_16 : decode cX4_init 16 = .ok (.new 7, 3) := by decide +kernel
theorem dX4_init_19 : decode cX4_init 19 = .ok (.dup, 1) := by decide +kernel
theorem dX4_init_20 : decode cX4_init 20 = .ok (.invokespecial 9, 3) := by decide +kernel
theorem dX4_init_23 : decode cX4_init 23 = .ok (.putfield 16, 3) := by decide +kernel
theorem dX4_init_26 : decode cX4_init 26 = .ok (.return_, 1) := by decide +kernel
theorem dX4_addFire_0 : decode cX4_addFire 0 = .ok (.aload_n 0, 1) := by decide +kernel
theorem dX4_addFire_1 : decode cX4_addFire 1 = .ok (.getfield 10, 3) := by decide +kernel
theorem dX4_addFire_4 : decode cX4_addFire 4 = .ok (.invokevirtual 19, 3) := by decide +kernel
theorem dX4_addFire_7 : decode cX4_addFire 7 = .ok (.istore_n 1, 1) := by decide +kernel
theorem dX4_addFire_8 : decode cX4_addFire 8 = .ok (.iload_n 1, 1) := by decide +kernel
theorem dX4_addFire_9 : decode cX4_addFire 9 = .ok (.iconst (-1), 1) := by decide +kernel
theorem dX4_addFire_10 : decode cX4_addFire 10 = .ok (.if_icmp .ne 13, 3) := by decide +kernel
theorem dX4_addFire_13 : decode cX4_addFire 13 = .ok (.new 23, 3) := by decide +kernel
theorem dX4_addFire_16 : decode cX4_addFire 16 = .ok (.dup, 1) := by decide +kernel
theorem dX4_addFire_17 : decode cX4_addFire 17 = .ok (.ldc 25, 2) := by decide +kernel
theorem dX4_addFire_19 : decode cX4_addFire 19 = .ok (.invokespecial 27, 3) := by decide +kernel
theorem dX4_addFire_22 : decode cX4_addFire 22 = .ok (.athrow, 1) := by decide +kernel
theorem dX4_addFire_23 : decode cX4_addFire 23 = .ok (.iload_n 1, 1) := by decide +kernel
theorem dX4_addFire_24 : decode cX4_addFire 24 = .ok (.ireturn, 1) := by decide +kernel
theorem dX4_layLogs_0 : decode cX4_layLogs 0 = .ok (.aload_n 0, 1) := by decide +kernel
theorem dX4_layLogs_1 : decode cX4_layLogs 1 = .ok (.iload_n 1, 1) := by decide +kernel
theorem dX4_layLogs_2 : decode cX4_layLogs 2 = .ok (.invokevirtual 30, 3) := by decide +kernel
theorem dX4_layLogs_5 : decode cX4_layLogs 5 = .ok (.astore_n 3, 1) := by decide +kernel
theorem dX4_layLogs_6 : decode cX4_layLogs 6 = .ok (.iload_n 2, 1) := by decide +kernel
theorem dX4_layLogs_7 : decode cX4_layLogs 7 = .ok (.iconst 1, 1) := by decide +kernel
theorem dX4_layLogs_8 : decode cX4_layLogs 8 = .ok (.if_icmp .lt 9, 3) := by decide +kernel
theorem dX4_layLogs_11 : decode cX4_layLogs 11 = .ok (.iload_n 2, 1) := by decide +kernel
theorem dX4_layLogs_12 : decode cX4_layLogs 12 = .ok (.bipush 40, 2) := by decide +kernel
theorem dX4_layLogs_14 : decode cX4_layLogs 14 = .ok (.if_icmp .le 13, 3) := by decide +kernel
theorem dX4_layLogs_17 : decode cX4_layLogs 17 = .ok (.new 34, 3) := by decide +kernel
theorem dX4_layLogs_20 : decode cX4_layLogs 20 = .ok (.dup, 1) := by decide +kernel
theorem dX4_layLogs_21 : decode cX4_layLogs 21 = .ok (.ldc 36, 2) := by decide +kernel
theorem dX4_layLogs_23 : decode cX4_layLogs 23 = .ok (.invokespecial 38, 3) := by decide +kernel
theorem dX4_layLogs_26 : decode cX4_layLogs 26 = .ok (.athrow, 1) := by decide +kernel
theorem dX4_layLogs_27 : decode cX4_layLogs 27 = .ok (.aload_n 3, 1) := by decide +kernel
theorem dX4_layLogs_28 : decode cX4_layLogs 28 = .ok (.bipush 40, 2) := by decide +kernel
theorem dX4_layLogs_30 : decode cX4_layLogs 30 = .ok (.aload_n 3, 1) := by decide +kernel
theorem dX4_layLogs_31 : decode cX4_layLogs 31 = .ok (.getfield 39, 3) := by decide +kernel
theorem dX4_layLogs_34 : decode cX4_layLogs 34 = .ok (.iload_n 2, 1) := by decide +kernel
theorem dX4_layLogs_35 : decode cX4_layLogs 35 = .ok (.iadd, 1) := by decide +kernel
theorem dX4_layLogs_36 : decode cX4_layLogs 36 = .ok (.invokestatic 45, 3) := by decide +kernel
theorem dX4_layLogs_39 : decode cX4_layLogs 39 = .ok (.putfield 39, 3) := by decide +kernel
theorem dX4_layLogs_42 : decode cX4_layLogs 42 = .ok (.aload_n 3, 1) := by decide +kernel
theorem dX4_layLogs_43 : decode cX4_layLogs 43 = .ok (.getfield 39, 3) := by decide +kernel
theorem dX4_layLogs_46 : decode cX4_layLogs 46 = .ok (.ireturn, 1) := by decide +kernel
theorem dX4_addSpit_0 : decode cX4_addSpit 0 = .ok (.aload_n 0, 1) := by decide +kernel
theorem dX4_addSpit_1 : decode cX4_addSpit 1 = .ok (.iload_n 1, 1) := by decide +kernel
theorem dX4_addSpit_2 : decode cX4_addSpit 2 = .ok (.invokevirtual 30, 3) := by decide +kernel
theorem dX4_addSpit_5 : decode cX4_addSpit 5 = .ok (.pop, 1) := by decide +kernel
theorem dX4_addSpit_6 : decode cX4_addSpit 6 = .ok (.iload_n 2, 1) := by decide +kernel
theorem dX4_addSpit_7 : decode cX4_addSpit 7 = .ok (.invokestatic 51, 3) := by decide +kernel
theorem dX4_addSpit_10 : decode cX4_addSpit 10 = .ok (.aload_n 0, 1) := by decide +kernel
theorem dX4_addSpit_11 : decode cX4_addSpit 11 = .ok (.getfield 10, 3) := by decide +kernel
theorem dX4_addSpit_14 : decode cX4_addSpit 14 = .ok (.iload_n 1, 1) := by decide +kernel
theorem dX4_addSpit_15 : decode cX4_addSpit 15 = .ok (.iload_n 2, 1) := by decide +kernel
theorem dX4_addSpit_16 : decode cX4_addSpit 16 = .ok (.invokevirtual 55, 3) := by decide +kernel
theorem dX4_addSpit_19 : decode cX4_addSpit 19 = .ok (.istore_n 3, 1) := by decide +kernel
theorem dX4_addSpit_20 : decode cX4_addSpit 20 = .ok (.iload_n 3, 1) := by decide +kernel
theorem dX4_addSpit_21 : decode cX4_addSpit 21 = .ok (.iconst (-1), 1) := by decide +kernel
theorem dX4_addSpit_22 : decode cX4_addSpit 22 = .ok (.if_icmp .ne 13, 3) := by decide +kernel
theorem dX4_addSpit_25 : decode cX4_addSpit 25 = .ok (.new 23, 3) := by decide +kernel
theorem dX4_addSpit_28 : decode cX4_addSpit 28 = .ok (.dup, 1) := by decide +kernel
theorem dX4_addSpit_29 : decode cX4_addSpit 29 = .ok (.ldc 58, 2) := by decide +kernel
theorem dX4_addSpit_31 : decode cX4_addSpit 31 = .ok (.invokespecial 27, 3) := by decide +kernel
theorem dX4_addSpit_34 : decode cX4_addSpit 34 = .ok (.athrow, 1) := by decide +kernel
theorem dX4_addSpit_35 : decode cX4_addSpit 35 = .ok (.iload_n 3, 1) := by decide +kernel
theorem dX4_addSpit_36 : decode cX4_addSpit 36 = .ok (.ireturn, 1) := by decide +kernel
theorem dX4_moveSpit_0 : decode cX4_moveSpit 0 = .ok (.aload_n 0, 1) := by decide +kernel
theorem dX4_moveSpit_1 : decode cX4_moveSpit 1 = .ok (.iload_n 1, 1) := by decide +kernel
theorem dX4_moveSpit_2 : decode cX4_moveSpit 2 = .ok (.invokevirtual 60, 3) := by decide +kernel
theorem dX4_moveSpit_5 : decode cX4_moveSpit 5 = .ok (.astore_n 3, 1) := by decide +kernel
theorem dX4_moveSpit_6 : decode cX4_moveSpit 6 = .ok (.iload_n 2, 1) := by decide +kernel
theorem dX4_moveSpit_7 : decode cX4_moveSpit 7 = .ok (.invokestatic 51, 3) := by decide +kernel
theorem dX4_moveSpit_10 : decode cX4_moveSpit 10 = .ok (.aload_n 3, 1) := by decide +kernel
theorem dX4_moveSpit_11 : decode cX4_moveSpit 11 = .ok (.getfield 64, 3) := by decide +kernel
theorem dX4_moveSpit_14 : decode cX4_moveSpit 14 = .ok (.istore 4, 2) := by decide +kernel
theorem dX4_moveSpit_16 : decode cX4_moveSpit 16 = .ok (.aload_n 3, 1) := by decide +kernel
theorem dX4_moveSpit_17 : decode cX4_moveSpit 17 = .ok (.iload_n 2, 1) := by decide +kernel
theorem dX4_moveSpit_18 : decode cX4_moveSpit 18 = .ok (.putfield 64, 3) := by decide +kernel
theorem dX4_moveSpit_21 : decode cX4_moveSpit 21 = .ok (.iload 4, 2) := by decide +kernel
theorem dX4_moveSpit_23 : decode cX4_moveSpit 23 = .ok (.ireturn, 1) := by decide +kernel
theorem dX4_turnEach_0 : decode cX4_turnEach 0 = .ok (.aload_n 0, 1) := by decide +kernel
theorem dX4_turnEach_1 : decode cX4_turnEach 1 = .ok (.iload_n 1, 1) := by decide +kernel
theorem dX4_turnEach_2 : decode cX4_turnEach 2 = .ok (.invokevirtual 60, 3) := by decide +kernel
theorem dX4_turnEach_5 : decode cX4_turnEach 5 = .ok (.astore_n 3, 1) := by decide +kernel
theorem dX4_turnEach_6 : decode cX4_turnEach 6 = .ok (.iload_n 2, 1) := by decide +kernel
theorem dX4_turnEach_7 : decode cX4_turnEach 7 = .ok (.ifCond .lt 9, 3) := by decide +kernel
theorem dX4_turnEach_10 : decode cX4_turnEach 10 = .ok (.iload_n 2, 1) := by decide +kernel
theorem dX4_turnEach_11 : decode cX4_turnEach 11 = .ok (.bipush 9, 2) := by decide +kernel
theorem dX4_turnEach_13 : decode cX4_turnEach 13 = .ok (.if_icmp .le 13, 3) := by decide +kernel
theorem dX4_turnEach_16 : decode cX4_turnEach 16 = .ok (.new 34, 3) := by decide +kernel
theorem dX4_turnEach_19 : decode cX4_turnEach 19 = .ok (.dup, 1) := by decide +kernel
theorem dX4_turnEach_20 : decode cX4_turnEach 20 = .ok (.ldc 69, 2) := by decide +kernel
theorem dX4_turnEach_22 : decode cX4_turnEach 22 = .ok (.invokespecial 38, 3) := by decide +kernel
theorem dX4_turnEach_25 : decode cX4_turnEach 25 = .ok (.athrow, 1) := by decide +kernel
theorem dX4_turnEach_26 : decode cX4_turnEach 26 = .ok (.aload_n 3, 1) := by decide +kernel
theorem dX4_turnEach_27 : decode cX4_turnEach 27 = .ok (.getfield 71, 3) := by decide +kernel
theorem dX4_turnEach_30 : decode cX4_turnEach 30 = .ok (.istore 4, 2) := by decide +kernel
theorem dX4_turnEach_32 : decode cX4_turnEach 32 = .ok (.aload_n 3, 1) := by decide +kernel
theorem dX4_turnEach_33 : decode cX4_turnEach 33 = .ok (.iload_n 2, 1) := by decide +kernel
theorem dX4_turnEach_34 : decode cX4_turnEach 34 = .ok (.invokevirtual 74, 3) := by decide +kernel
theorem dX4_turnEach_37 : decode cX4_turnEach 37 = .ok (.iload 4, 2) := by decide +kernel
theorem dX4_turnEach_39 : decode cX4_turnEach 39 = .ok (.ireturn, 1) := by decide +kernel
theorem dX4_setFeast_0 : decode cX4_setFeast 0 = .ok (.iload_n 1, 1) := by decide +kernel
theorem dX4_setFeast_1 : decode cX4_setFeast 1 = .ok (.ifCond .lt 10, 3) := by decide +kernel
theorem dX4_setFeast_4 : decode cX4_setFeast 4 = .ok (.iload_n 1, 1) := by decide +kernel
theorem dX4_setFeast_5 : decode cX4_setFeast 5 = .ok (.sipush 5000, 3) := by decide +kernel
theorem dX4_setFeast_8 : decode cX4_setFeast 8 = .ok (.if_icmp .le 13, 3) := by decide +kernel
theorem dX4_setFeast_11 : decode cX4_setFeast 11 = .ok (.new 34, 3) := by decide +kernel
theorem dX4_setFeast_14 : decode cX4_setFeast 14 = .ok (.dup, 1) := by decide +kernel
theorem dX4_setFeast_15 : decode cX4_setFeast 15 = .ok (.ldc 77, 2) := by decide +kernel
theorem dX4_setFeast_17 : decode cX4_setFeast 17 = .ok (.invokespecial 38, 3) := by decide +kernel
theorem dX4_setFeast_20 : decode cX4_setFeast 20 = .ok (.athrow, 1) := by decide +kernel
theorem dX4_setFeast_21 : decode cX4_setFeast 21 = .ok (.aload_n 0, 1) := by decide +kernel
theorem dX4_setFeast_22 : decode cX4_setFeast 22 = .ok (.getfield 10, 3) := by decide +kernel
theorem dX4_setFeast_25 : decode cX4_setFeast 25 = .ok (.getfield 79, 3) := by decide +kernel
theorem dX4_setFeast_28 : decode cX4_setFeast 28 = .ok (.istore_n 2, 1) := by decide +kernel
theorem dX4_setFeast_29 : decode cX4_setFeast 29 = .ok (.aload_n 0, 1) := by decide +kernel
theorem dX4_setFeast_30 : decode cX4_setFeast 30 = .ok (.getfield 10, 3) := by decide +kernel
theorem dX4_setFeast_33 : decode cX4_setFeast 33 = .ok (.iload_n 1, 1) := by decide +kernel
theorem dX4_setFeast_34 : decode cX4_setFeast 34 = .ok (.putfield 79, 3) := by decide +kernel
theorem dX4_setFeast_37 : decode cX4_setFeast 37 = .ok (.iload_n 2, 1) := by decide +kernel
theorem dX4_setFeast_38 : decode cX4_setFeast 38 = .ok (.ireturn, 1) := by decide +kernel
theorem dX4_hang_0 : decode cX4_hang 0 = .ok (.aload_n 0, 1) := by decide +kernel
theorem dX4_hang_1 : decode cX4_hang 1 = .ok (.iload_n 1, 1) := by decide +kernel
theorem dX4_hang_2 : decode cX4_hang 2 = .ok (.invokevirtual 60, 3) := by decide +kernel
theorem dX4_hang_5 : decode cX4_hang 5 = .ok (.pop, 1) := by decide +kernel
theorem dX4_hang_6 : decode cX4_hang 6 = .ok (.iload_n 2, 1) := by decide +kernel
theorem dX4_hang_7 : decode cX4_hang 7 = .ok (.invokestatic 82, 3) := by decide +kernel
theorem dX4_hang_10 : decode cX4_hang 10 = .ok (.aload_n 0, 1) := by decide +kernel
theorem dX4_hang_11 : decode cX4_hang 11 = .ok (.getfield 10, 3) := by decide +kernel
theorem dX4_hang_14 : decode cX4_hang 14 = .ok (.iload_n 1, 1) := by decide +kernel
theorem dX4_hang_15 : decode cX4_hang 15 = .ok (.iload_n 2, 1) := by decide +kernel
theorem dX4_hang_16 : decode cX4_hang 16 = .ok (.invokevirtual 85, 3) := by decide +kernel
theorem dX4_hang_19 : decode cX4_hang 19 = .ok (.istore_n 3, 1) := by decide +kernel
theorem dX4_hang_20 : decode cX4_hang 20 = .ok (.iload_n 3, 1) := by decide +kernel
theorem dX4_hang_21 : decode cX4_hang 21 = .ok (.iconst (-1), 1) := by decide +kernel
theorem dX4_hang_22 : decode cX4_hang 22 = .ok (.if_icmp .ne 13, 3) := by decide +kernel
theorem dX4_hang_25 : decode cX4_hang 25 = .ok (.new 23, 3) := by decide +kernel
theorem dX4_hang_28 : decode cX4_hang 28 = .ok (.dup, 1) := by decide +kernel
theorem dX4_hang_29 : decode cX4_hang 29 = .ok (.ldc 88, 2) := by decide +kernel
theorem dX4_hang_31 : decode cX4_hang 31 = .ok (.invokespecial 27, 3) := by decide +kernel
theorem dX4_hang_34 : decode cX4_hang 34 = .ok (.athrow, 1) := by decide +kernel
theorem dX4_hang_35 : decode cX4_hang 35 = .ok (.iload_n 3, 1) := by decide +kernel
theorem dX4_hang_36 : decode cX4_hang 36 = .ok (.ireturn, 1) := by decide +kernel
theorem dX4_turnNow_0 : decode cX4_turnNow 0 = .ok (.aload_n 0, 1) := by decide +kernel
theorem dX4_turnNow_1 : decode cX4_turnNow 1 = .ok (.aload_n 0, 1) := by decide +kernel
theorem dX4_turnNow_2 : decode cX4_turnNow 2 = .ok (.iload_n 1, 1) := by decide +kernel
theorem dX4_turnNow_3 : decode cX4_turnNow 3 = .ok (.invokevirtual 60, 3) := by decide +kernel
theorem dX4_turnNow_6 : decode cX4_turnNow 6 = .ok (.invokevirtual 90, 3) := by decide +kernel
theorem dX4_turnNow_9 : decode cX4_turnNow 9 = .ok (.astore_n 2, 1) := by decide +kernel
theorem dX4_turnNow_10 : decode cX4_turnNow 10 = .ok (.aload_n 2, 1) := by decide +kernel
theorem dX4_turnNow_11 : decode cX4_turnNow 11 = .ok (.invokevirtual 94, 3) := by decide +kernel
theorem dX4_turnNow_14 : decode cX4_turnNow 14 = .ok (.aload_n 2, 1) := by decide +kernel
theorem dX4_turnNow_15 : decode cX4_turnNow 15 = .ok (.getfield 99, 3) := by decide +kernel
theorem dX4_turnNow_18 : decode cX4_turnNow 18 = .ok (.ireturn, 1) := by decide +kernel
theorem dX4_baste_0 : decode cX4_baste 0 = .ok (.aload_n 0, 1) := by decide +kernel
theorem dX4_baste_1 : decode cX4_baste 1 = .ok (.iload_n 1, 1) := by decide +kernel
theorem dX4_baste_2 : decode cX4_baste 2 = .ok (.invokevirtual 60, 3) := by decide +kernel
theorem dX4_baste_5 : decode cX4_baste 5 = .ok (.astore_n 2, 1) := by decide +kernel
theorem dX4_baste_6 : decode cX4_baste 6 = .ok (.aload_n 0, 1) := by decide +kernel
theorem dX4_baste_7 : decode cX4_baste 7 = .ok (.aload_n 2, 1) := by decide +kernel
theorem dX4_baste_8 : decode cX4_baste 8 = .ok (.invokevirtual 90, 3) := by decide +kernel
theorem dX4_baste_11 : decode cX4_baste 11 = .ok (.astore_n 3, 1) := by decide +kernel
theorem dX4_baste_12 : decode cX4_baste 12 = .ok (.aload_n 2, 1) := by decide +kernel
theorem dX4_baste_13 : decode cX4_baste 13 = .ok (.getfield 102, 3) := by decide +kernel
theorem dX4_baste_16 : decode cX4_baste 16 = .ok (.iconst 2, 1) := by decide +kernel
theorem dX4_baste_17 : decode cX4_baste 17 = .ok (.if_icmp .ge 13, 3) := by decide +kernel
theorem dX4_baste_20 : decode cX4_baste 20 = .ok (.new 23, 3) := by decide +kernel
theorem dX4_baste_23 : decode cX4_baste 23 = .ok (.dup, 1) := by decide +kernel
theorem dX4_baste_24 : decode cX4_baste 24 = .ok (.ldc 105, 2) := by decide +kernel
theorem dX4_baste_26 : decode cX4_baste 26 = .ok (.invokespecial 27, 3) := by decide +kernel
theorem dX4_baste_29 : decode cX4_baste 29 = .ok (.athrow, 1) := by decide +kernel
theorem dX4_baste_30 : decode cX4_baste 30 = .ok (.aload_n 2, 1) := by decide +kernel
theorem dX4_baste_31 : decode cX4_baste 31 = .ok (.dup, 1) := by decide +kernel
theorem dX4_baste_32 : decode cX4_baste 32 = .ok (.getfield 102, 3) := by decide +kernel
theorem dX4_baste_35 : decode cX4_baste 35 = .ok (.iconst 2, 1) := by decide +kernel
theorem dX4_baste_36 : decode cX4_baste 36 = .ok (.isub, 1) := by decide +kernel
theorem dX4_baste_37 : decode cX4_baste 37 = .ok (.putfield 102, 3) := by decide +kernel
theorem dX4_baste_40 : decode cX4_baste 40 = .ok (.aload_n 3, 1) := by decide +kernel
theorem dX4_baste_41 : decode cX4_baste 41 = .ok (.iconst 3, 1) := by decide +kernel
theorem dX4_baste_42 : decode cX4_baste 42 = .ok (.putfield 107, 3) := by decide +kernel
theorem dX4_baste_45 : decode cX4_baste 45 = .ok (.aload_n 2, 1) := by decide +kernel
theorem dX4_baste_46 : decode cX4_baste 46 = .ok (.getfield 102, 3) := by decide +kernel
theorem dX4_baste_49 : decode cX4_baste 49 = .ok (.ireturn, 1) := by decide +kernel
theorem dX4_takeDown_0 : decode cX4_takeDown 0 = .ok (.aload_n 0, 1) := by decide +kernel
theorem dX4_takeDown_1 : decode cX4_takeDown 1 = .ok (.iload_n 1, 1) := by decide +kernel
theorem dX4_takeDown_2 : decode cX4_takeDown 2 = .ok (.invokevirtual 60, 3) := by decide +kernel
theorem dX4_takeDown_5 : decode cX4_takeDown 5 = .ok (.astore_n 2, 1) := by decide +kernel
theorem dX4_takeDown_6 : decode cX4_takeDown 6 = .ok (.aload_n 0, 1) := by decide +kernel
theorem dX4_takeDown_7 : decode cX4_takeDown 7 = .ok (.aload_n 2, 1) := by decide +kernel
theorem dX4_takeDown_8 : decode cX4_takeDown 8 = .ok (.invokevirtual 90, 3) := by decide +kernel
theorem dX4_takeDown_11 : decode cX4_takeDown 11 = .ok (.astore_n 3, 1) := by decide +kernel
theorem dX4_takeDown_12 : decode cX4_takeDown 12 = .ok (.aload_n 2, 1) := by decide +kernel
theorem dX4_takeDown_13 : decode cX4_takeDown 13 = .ok (.getfield 110, 3) := by decide +kernel
theorem dX4_takeDown_16 : decode cX4_takeDown 16 = .ok (.istore 4, 2) := by decide +kernel
theorem dX4_takeDown_18 : decode cX4_takeDown 18 = .ok (.aload_n 3, 1) := by decide +kernel
theorem dX4_takeDown_19 : decode cX4_takeDown 19 = .ok (.iconst (-1), 1) := by decide +kernel
theorem dX4_takeDown_20 : decode cX4_takeDown 20 = .ok (.putfield 113, 3) := by decide +kernel
theorem dX4_takeDown_23 : decode cX4_takeDown 23 = .ok (.aload_n 2, 1) := by decide +kernel
theorem dX4_takeDown_24 : decode cX4_takeDown 24 = .ok (.iconst (-1), 1) := by decide +kernel
theorem dX4_takeDown_25 : decode cX4_takeDown 25 = .ok (.putfield 110, 3) := by decide +kernel
theorem dX4_takeDown_28 : decode cX4_takeDown 28 = .ok (.iload 4, 2) := by decide +kernel
theorem dX4_takeDown_30 : decode cX4_takeDown 30 = .ok (.ireturn, 1) := by decide +kernel
theorem dX4_emptyPan_0 : decode cX4_emptyPan 0 = .ok (.aload_n 0, 1) := by decide +kernel
theorem dX4_emptyPan_1 : decode cX4_emptyPan 1 = .ok (.iload_n 1, 1) := by decide +kernel
theorem dX4_emptyPan_2 : decode cX4_emptyPan 2 = .ok (.invokevirtual 60, 3) := by decide +kernel
theorem dX4_emptyPan_5 : decode cX4_emptyPan 5 = .ok (.astore_n 2, 1) := by decide +kernel
theorem dX4_emptyPan_6 : decode cX4_emptyPan 6 = .ok (.aload_n 2, 1) := by decide +kernel
theorem dX4_emptyPan_7 : decode cX4_emptyPan 7 = .ok (.getfield 102, 3) := by decide +kernel
theorem dX4_emptyPan_10 : decode cX4_emptyPan 10 = .ok (.istore_n 3, 1) := by decide +kernel
theorem dX4_emptyPan_11 : decode cX4_emptyPan 11 = .ok (.aload_n 2, 1) := by decide +kernel
theorem dX4_emptyPan_12 : decode cX4_emptyPan 12 = .ok (.iconst 0, 1) := by decide +kernel
theorem dX4_emptyPan_13 : decode cX4_emptyPan 13 = .ok (.putfield 102, 3) := by decide +kernel
theorem dX4_emptyPan_16 : decode cX4_emptyPan 16 = .ok (.iload_n 3, 1) := by decide +kernel
theorem dX4_emptyPan_17 : decode cX4_emptyPan 17 = .ok (.ireturn, 1) := by decide +kernel
theorem dX4_pass_0 : decode cX4_pass 0 = .ok (.iload_n 1, 1) := by decide +kernel
theorem dX4_pass_1 : decode cX4_pass 1 = .ok (.iconst 1, 1) := by decide +kernel
theorem dX4_pass_2 : decode cX4_pass 2 = .ok (.if_icmp .lt 10, 3) := by decide +kernel
theorem dX4_pass_5 : decode cX4_pass 5 = .ok (.iload_n 1, 1) := by decide +kernel
theorem dX4_pass_6 : decode cX4_pass 6 = .ok (.sipush 200, 3) := by decide +kernel
theorem dX4_pass_9 : decode cX4_pass 9 = .ok (.if_icmp .le 13, 3) := by decide +kernel
theorem dX4_pass_12 : decode cX4_pass 12 = .ok (.new 34, 3) := by decide +kernel
theorem dX4_pass_15 : decode cX4_pass 15 = .ok (.dup, 1) := by decide +kernel
theorem dX4_pass_16 : decode cX4_pass 16 = .ok (.ldc 116, 2) := by decide +kernel
theorem dX4_pass_18 : decode cX4_pass 18 = .ok (.invokespecial 38, 3) := by decide +kernel
theorem dX4_pass_21 : decode cX4_pass 21 = .ok (.athrow, 1) := by decide +kernel
theorem dX4_pass_22 : decode cX4_pass 22 = .ok (.aload_n 0, 1) := by decide +kernel
theorem dX4_pass_23 : decode cX4_pass 23 = .ok (.getfield 10, 3) := by decide +kernel
theorem dX4_pass_26 : decode cX4_pass 26 = .ok (.iload_n 1, 1) := by decide +kernel
theorem dX4_pass_27 : decode cX4_pass 27 = .ok (.invokevirtual 118, 3) := by decide +kernel
theorem dX4_pass_30 : decode cX4_pass 30 = .ok (.ireturn, 1) := by decide +kernel
theorem dX4_minute_0 : decode cX4_minute 0 = .ok (.aload_n 0, 1) := by decide +kernel
theorem dX4_minute_1 : decode cX4_minute 1 = .ok (.getfield 10, 3) := by decide +kernel
theorem dX4_minute_4 : decode cX4_minute 4 = .ok (.getfield 122, 3) := by decide +kernel
theorem dX4_minute_7 : decode cX4_minute 7 = .ok (.ireturn, 1) := by decide +kernel
theorem dX4_feast_0 : decode cX4_feast 0 = .ok (.aload_n 0, 1) := by decide +kernel
theorem dX4_feast_1 : decode cX4_feast 1 = .ok (.getfield 10, 3) := by decide +kernel
theorem dX4_feast_4 : decode cX4_feast 4 = .ok (.getfield 79, 3) := by decide +kernel
theorem dX4_feast_7 : decode cX4_feast 7 = .ok (.ireturn, 1) := by decide +kernel
theorem dX4_fires_0 : decode cX4_fires 0 = .ok (.aload_n 0, 1) := by decide +kernel
theorem dX4_fires_1 : decode cX4_fires 1 = .ok (.getfield 10, 3) := by decide +kernel
theorem dX4_fires_4 : decode cX4_fires 4 = .ok (.getfield 125, 3) := by decide +kernel
theorem dX4_fires_7 : decode cX4_fires 7 = .ok (.ireturn, 1) := by decide +kernel
theorem dX4_logsOf_0 : decode cX4_logsOf 0 = .ok (.aload_n 0, 1) := by decide +kernel
theorem dX4_logsOf_1 : decode cX4_logsOf 1 = .ok (.iload_n 1, 1) := by decide +kernel
theorem dX4_logsOf_2 : decode cX4_logsOf 2 = .ok (.invokevirtual 30, 3) := by decide +kernel
theorem dX4_logsOf_5 : decode cX4_logsOf 5 = .ok (.getfield 39, 3) := by decide +kernel
theorem dX4_logsOf_8 : decode cX4_logsOf 8 = .ok (.ireturn, 1) := by decide +kernel
theorem dX4_heatOf_0 : decode cX4_heatOf 0 = .ok (.aload_n 0, 1) := by decide +kernel
theorem dX4_heatOf_1 : decode cX4_heatOf 1 = .ok (.iload_n 1, 1) := by decide +kernel
theorem dX4_heatOf_2 : decode cX4_heatOf 2 = .ok (.invokevirtual 30, 3) := by decide +kernel
theorem dX4_heatOf_5 : decode cX4_heatOf 5 = .ok (.getfield 128, 3) := by decide +kernel
theorem dX4_heatOf_8 : decode cX4_heatOf 8 = .ok (.ireturn, 1) := by decide +kernel
theorem dX4_spits_0 : decode cX4_spits 0 = .ok (.aload_n 0, 1) := by decide +kernel
theorem dX4_spits_1 : decode cX4_spits 1 = .ok (.getfield 10, 3) := by decide +kernel
theorem dX4_spits_4 : decode cX4_spits 4 = .ok (.getfield 131, 3) := by decide +kernel
theorem dX4_spits_7 : decode cX4_spits 7 = .ok (.ireturn, 1) := by decide +kernel
theorem dX4_fireOf_0 : decode cX4_fireOf 0 = .ok (.aload_n 0, 1) := by decide +kernel
theorem dX4_fireOf_1 : decode cX4_fireOf 1 = .ok (.iload_n 1, 1) := by decide +kernel
theorem dX4_fireOf_2 : decode cX4_fireOf 2 = .ok (.invokevirtual 60, 3) := by decide +kernel
theorem dX4_fireOf_5 : decode cX4_fireOf 5 = .ok (.getfield 134, 3) := by decide +kernel
theorem dX4_fireOf_8 : decode cX4_fireOf 8 = .ok (.ireturn, 1) := by decide +kernel
theorem dX4_feetOf_0 : decode cX4_feetOf 0 = .ok (.aload_n 0, 1) := by decide +kernel
theorem dX4_feetOf_1 : decode cX4_feetOf 1 = .ok (.iload_n 1, 1) := by decide +kernel
theorem dX4_feetOf_2 : decode cX4_feetOf 2 = .ok (.invokevirtual 60, 3) := by decide +kernel
theorem dX4_feetOf_5 : decode cX4_feetOf 5 = .ok (.getfield 64, 3) := by decide +kernel
theorem dX4_feetOf_8 : decode cX4_feetOf 8 = .ok (.ireturn, 1) := by decide +kernel
theorem dX4_glowAt_0 : decode cX4_glowAt 0 = .ok (.aload_n 0, 1) := by decide +kernel
theorem dX4_glowAt_1 : decode cX4_glowAt 1 = .ok (.getfield 10, 3) := by decide +kernel
theorem dX4_glowAt_4 : decode cX4_glowAt 4 = .ok (.aload_n 0, 1) := by decide +kernel
theorem dX4_glowAt_5 : decode cX4_glowAt 5 = .ok (.iload_n 1, 1) := by decide +kernel
theorem dX4_glowAt_6 : decode cX4_glowAt 6 = .ok (.invokevirtual 60, 3) := by decide +kernel
theorem dX4_glowAt_9 : decode cX4_glowAt 9 = .ok (.invokevirtual 137, 3) := by decide +kernel
theorem dX4_glowAt_12 : decode cX4_glowAt 12 = .ok (.ireturn, 1) := by decide +kernel
theorem dX4_turnedEach_0 : decode cX4_turnedEach 0 = .ok (.aload_n 0, 1) := by decide +kernel
theorem dX4_turnedEach_1 : decode cX4_turnedEach 1 = .ok (.iload_n 1, 1) := by decide +kernel
theorem dX4_turnedEach_2 : decode cX4_turnedEach 2 = .ok (.invokevirtual 60, 3) := by decide +kernel
theorem dX4_turnedEach_5 : decode cX4_turnedEach 5 = .ok (.getfield 71, 3) := by decide +kernel
theorem dX4_turnedEach_8 : decode cX4_turnedEach 8 = .ok (.ireturn, 1) := by decide +kernel
theorem dX4_drippingsOf_0 : decode cX4_drippingsOf 0 = .ok (.aload_n 0, 1) := by decide +kernel
theorem dX4_drippingsOf_1 : decode cX4_drippingsOf 1 = .ok (.iload_n 1, 1) := by decide +kernel
theorem dX4_drippingsOf_2 : decode cX4_drippingsOf 2 = .ok (.invokevirtual 60, 3) := by decide +kernel
theorem dX4_drippingsOf_5 : decode cX4_drippingsOf 5 = .ok (.getfield 102, 3) := by decide +kernel
theorem dX4_drippingsOf_8 : decode cX4_drippingsOf 8 = .ok (.ireturn, 1) := by decide +kernel
theorem dX4_roastOn_0 : decode cX4_roastOn 0 = .ok (.aload_n 0, 1) := by decide +kernel
theorem dX4_roastOn_1 : decode cX4_roastOn 1 = .ok (.iload_n 1, 1) := by decide +kernel
theorem dX4_roastOn_2 : decode cX4_roastOn 2 = .ok (.invokevirtual 60, 3) := by decide +kernel
theorem dX4_roastOn_5 : decode cX4_roastOn 5 = .ok (.getfield 110, 3) := by decide +kernel
theorem dX4_roastOn_8 : decode cX4_roastOn 8 = .ok (.ireturn, 1) := by decide +kernel
theorem dX4_roasts_0 : decode cX4_roasts 0 = .ok (.aload_n 0, 1) := by decide +kernel
theorem dX4_roasts_1 : decode cX4_roasts 1 = .ok (.getfield 10, 3) := by decide +kernel
theorem dX4_roasts_4 : decode cX4_roasts 4 = .ok (.getfield 141, 3) := by decide +kernel
theorem dX4_roasts_7 : decode cX4_roasts 7 = .ok (.ireturn, 1) := by decide +kernel
theorem dX4_poundsOf_0 : decode cX4_poundsOf 0 = .ok (.aload_n 0, 1) := by decide +kernel
theorem dX4_poundsOf_1 : decode cX4_poundsOf 1 = .ok (.iload_n 1, 1) := by decide +kernel
theorem dX4_poundsOf_2 : decode cX4_poundsOf 2 = .ok (.invokevirtual 144, 3) := by decide +kernel
theorem dX4_poundsOf_5 : decode cX4_poundsOf 5 = .ok (.getfield 148, 3) := by decide +kernel
theorem dX4_poundsOf_8 : decode cX4_poundsOf 8 = .ok (.ireturn, 1) := by decide +kernel
theorem dX4_spitOf_0 : decode cX4_spitOf 0 = .ok (.aload_n 0, 1) := by decide +kernel
theorem dX4_spitOf_1 : decode cX4_spitOf 1 = .ok (.iload_n 1, 1) := by decide +kernel
theorem dX4_spitOf_2 : decode cX4_spitOf 2 = .ok (.invokevirtual 144, 3) := by decide +kernel
theorem dX4_spitOf_5 : decode cX4_spitOf 5 = .ok (.getfield 113, 3) := by decide +kernel
theorem dX4_spitOf_8 : decode cX4_spitOf 8 = .ok (.ireturn, 1) := by decide +kernel
theorem dX4_sideToFire_0 : decode cX4_sideToFire 0 = .ok (.aload_n 0, 1) := by decide +kernel
theorem dX4_sideToFire_1 : decode cX4_sideToFire 1 = .ok (.iload_n 1, 1) := by decide +kernel
theorem dX4_sideToFire_2 : decode cX4_sideToFire 2 = .ok (.invokevirtual 144, 3) := by decide +kernel
theorem dX4_sideToFire_5 : decode cX4_sideToFire 5 = .ok (.getfield 99, 3) := by decide +kernel
theorem dX4_sideToFire_8 : decode cX4_sideToFire 8 = .ok (.ireturn, 1) := by decide +kernel
theorem dX4_brownOf_0 : decode cX4_brownOf 0 = .ok (.aload_n 0, 1) := by decide +kernel
theorem dX4_brownOf_1 : decode cX4_brownOf 1 = .ok (.iload_n 1, 1) := by decide +kernel
theorem dX4_brownOf_2 : decode cX4_brownOf 2 = .ok (.invokevirtual 144, 3) := by decide +kernel
theorem dX4_brownOf_5 : decode cX4_brownOf 5 = .ok (.astore_n 3, 1) := by decide +kernel
theorem dX4_brownOf_6 : decode cX4_brownOf 6 = .ok (.iload_n 2, 1) := by decide +kernel
theorem dX4_brownOf_7 : decode cX4_brownOf 7 = .ok (.ifCond .lt 12, 3) := by decide +kernel
theorem dX4_brownOf_10 : decode cX4_brownOf 10 = .ok (.iload_n 2, 1) := by decide +kernel
theorem dX4_brownOf_11 : decode cX4_brownOf 11 = .ok (.aload_n 3, 1) := by decide +kernel
theorem dX4_brownOf_12 : decode cX4_brownOf 12 = .ok (.getfield 151, 3) := by decide +kernel
theorem dX4_brownOf_15 : decode cX4_brownOf 15 = .ok (.arraylength, 1) := by decide +kernel
theorem dX4_brownOf_16 : decode cX4_brownOf 16 = .ok (.if_icmp .lt 13, 3) := by decide +kernel
theorem dX4_brownOf_19 : decode cX4_brownOf 19 = .ok (.new 155, 3) := by decide +kernel
theorem dX4_brownOf_22 : decode cX4_brownOf 22 = .ok (.dup, 1) := by decide +kernel
theorem dX4_brownOf_23 : decode cX4_brownOf 23 = .ok (.ldc 157, 2) := by decide +kernel
theorem dX4_brownOf_25 : decode cX4_brownOf 25 = .ok (.invokespecial 159, 3) := by decide +kernel
theorem dX4_brownOf_28 : decode cX4_brownOf 28 = .ok (.athrow, 1) := by decide +kernel
theorem dX4_brownOf_29 : decode cX4_brownOf 29 = .ok (.aload_n 3, 1) := by decide +kernel
theorem dX4_brownOf_30 : decode cX4_brownOf 30 = .ok (.getfield 151, 3) := by decide +kernel
theorem dX4_brownOf_33 : decode cX4_brownOf 33 = .ok (.iload_n 2, 1) := by decide +kernel
theorem dX4_brownOf_34 : decode cX4_brownOf 34 = .ok (.iaload, 1) := by decide +kernel
theorem dX4_brownOf_35 : decode cX4_brownOf 35 = .ok (.ireturn, 1) := by decide +kernel
theorem dX4_fatOf_0 : decode cX4_fatOf 0 = .ok (.aload_n 0, 1) := by decide +kernel
theorem dX4_fatOf_1 : decode cX4_fatOf 1 = .ok (.iload_n 1, 1) := by decide +kernel
theorem dX4_fatOf_2 : decode cX4_fatOf 2 = .ok (.invokevirtual 144, 3) := by decide +kernel
theorem dX4_fatOf_5 : decode cX4_fatOf 5 = .ok (.getfield 160, 3) := by decide +kernel
theorem dX4_fatOf_8 : decode cX4_fatOf 8 = .ok (.ireturn, 1) := by decide +kernel
theorem dX4_wetFor_0 : decode cX4_wetFor 0 = .ok (.aload_n 0, 1) := by decide +kernel
theorem dX4_wetFor_1 : decode cX4_wetFor 1 = .ok (.iload_n 1, 1) := by decide +kernel
theorem dX4_wetFor_2 : decode cX4_wetFor 2 = .ok (.invokevirtual 144, 3) := by decide +kernel
theorem dX4_wetFor_5 : decode cX4_wetFor 5 = .ok (.getfield 107, 3) := by decide +kernel
theorem dX4_wetFor_8 : decode cX4_wetFor 8 = .ok (.ireturn, 1) := by decide +kernel
theorem dX4_isDone_0 : decode cX4_isDone 0 = .ok (.aload_n 0, 1) := by decide +kernel
theorem dX4_isDone_1 : decode cX4_isDone 1 = .ok (.iload_n 1, 1) := by decide +kernel
theorem dX4_isDone_2 : decode cX4_isDone 2 = .ok (.invokevirtual 144, 3) := by decide +kernel
theorem dX4_isDone_5 : decode cX4_isDone 5 = .ok (.invokevirtual 163, 3) := by decide +kernel
theorem dX4_isDone_8 : decode cX4_isDone 8 = .ok (.ireturn, 1) := by decide +kernel
theorem dX4_isBurnt_0 : decode cX4_isBurnt 0 = .ok (.aload_n 0, 1) := by decide +kernel
theorem dX4_isBurnt_1 : decode cX4_isBurnt 1 = .ok (.iload_n 1, 1) := by decide +kernel
theorem dX4_isBurnt_2 : decode cX4_isBurnt 2 = .ok (.invokevirtual 144, 3) := by decide +kernel
theorem dX4_isBurnt_5 : decode cX4_isBurnt 5 = .ok (.invokevirtual 167, 3) := by decide +kernel
theorem dX4_isBurnt_8 : decode cX4_isBurnt 8 = .ok (.ireturn, 1) := by decide +kernel
theorem dX4_minutesUntilDone_0 : decode cX4_minutesUntilDone 0 = .ok (.aload_n 0, 1) := by decide +kernel
theorem dX4_minutesUntilDone_1 : decode cX4_minutesUntilDone 1 = .ok (.iload_n 1, 1) := by decide +kernel
theorem dX4_minutesUntilDone_2 : decode cX4_minutesUntilDone 2 = .ok (.invokevirtual 144, 3) := by decide +kernel
theorem dX4_minutesUntilDone_5 : decode cX4_minutesUntilDone 5 = .ok (.pop, 1) := by decide +kernel
theorem dX4_minutesUntilDone_6 : decode cX4_minutesUntilDone 6 = .ok (.aload_n 0, 1) := by decide +kernel
theorem dX4_minutesUntilDone_7 : decode cX4_minutesUntilDone 7 = .ok (.getfield 16, 3) := by decide +kernel
theorem dX4_minutesUntilDone_10 : decode cX4_minutesUntilDone 10 = .ok (.aload_n 0, 1) := by decide +kernel
theorem dX4_minutesUntilDone_11 : decode cX4_minutesUntilDone 11 = .ok (.getfield 10, 3) := by decide +kernel
theorem dX4_minutesUntilDone_14 : decode cX4_minutesUntilDone 14 = .ok (.invokevirtual 170, 3) := by decide +kernel
theorem dX4_minutesUntilDone_17 : decode cX4_minutesUntilDone 17 = .ok (.aload_n 0, 1) := by decide +kernel
theorem dX4_minutesUntilDone_18 : decode cX4_minutesUntilDone 18 = .ok (.iload_n 1, 1) := by decide +kernel
theorem dX4_minutesUntilDone_19 : decode cX4_minutesUntilDone 19 = .ok (.invokevirtual 174, 3) := by decide +kernel
theorem dX4_minutesUntilDone_22 : decode cX4_minutesUntilDone 22 = .ok (.ireturn, 1) := by decide +kernel
theorem dX4_minutesUntilBurnt_0 : decode cX4_minutesUntilBurnt 0 = .ok (.aload_n 0, 1) := by decide +kernel
theorem dX4_minutesUntilBurnt_1 : decode cX4_minutesUntilBurnt 1 = .ok (.iload_n 1, 1) := by decide +kernel
theorem dX4_minutesUntilBurnt_2 : decode cX4_minutesUntilBurnt 2 = .ok (.invokevirtual 144, 3) := by decide +kernel
theorem dX4_minutesUntilBurnt_5 : decode cX4_minutesUntilBurnt 5 = .ok (.pop, 1) := by decide +kernel
theorem dX4_minutesUntilBurnt_6 : decode cX4_minutesUntilBurnt 6 = .ok (.aload_n 0, 1) := by decide +kernel
theorem dX4_minutesUntilBurnt_7 : decode cX4_minutesUntilBurnt 7 = .ok (.getfield 16, 3) := by decide +kernel
theorem dX4_minutesUntilBurnt_10 : decode cX4_minutesUntilBurnt 10 = .ok (.aload_n 0, 1) := by decide +kernel
theorem dX4_minutesUntilBurnt_11 : decode cX4_minutesUntilBurnt 11 = .ok (.getfield 10, 3) := by decide +kernel
theorem dX4_minutesUntilBurnt_14 : decode cX4_minutesUntilBurnt 14 = .ok (.invokevirtual 170, 3) := by decide +kernel
theorem dX4_minutesUntilBurnt_17 : decode cX4_minutesUntilBurnt 17 = .ok (.aload_n 0, 1) := by decide +kernel
theorem dX4_minutesUntilBurnt_18 : decode cX4_minutesUntilBurnt 18 = .ok (.iload_n 1, 1) := by decide +kernel
theorem dX4_minutesUntilBurnt_19 : decode cX4_minutesUntilBurnt 19 = .ok (.invokevirtual 177, 3) := by decide +kernel
theorem dX4_minutesUntilBurnt_22 : decode cX4_minutesUntilBurnt 22 = .ok (.ireturn, 1) := by decide +kernel
theorem dX4_doneAtFeast_0 : decode cX4_doneAtFeast 0 = .ok (.aload_n 0, 1) := by decide +kernel
theorem dX4_doneAtFeast_1 : decode cX4_doneAtFeast 1 = .ok (.getfield 10, 3) := by decide +kernel
theorem dX4_doneAtFeast_4 : decode cX4_doneAtFeast 4 = .ok (.getfield 79, 3) := by decide +kernel
theorem dX4_doneAtFeast_7 : decode cX4_doneAtFeast 7 = .ok (.aload_n 0, 1) := by decide +kernel
theorem dX4_doneAtFeast_8 : decode cX4_doneAtFeast 8 = .ok (.getfield 10, 3) := by decide +kernel
theorem dX4_doneAtFeast_11 : decode cX4_doneAtFeast 11 = .ok (.getfield 122, 3) := by decide +kernel
theorem dX4_doneAtFeast_14 : decode cX4_doneAtFeast 14 = .ok (.isub, 1) := by decide +kernel
theorem dX4_doneAtFeast_15 : decode cX4_doneAtFeast 15 = .ok (.istore_n 1, 1) := by decide +kernel
theorem dX4_doneAtFeast_16 : decode cX4_doneAtFeast 16 = .ok (.iload_n 1, 1) := by decide +kernel
theorem dX4_doneAtFeast_17 : decode cX4_doneAtFeast 17 = .ok (.ifCond .lt 10, 3) := by decide +kernel
theorem dX4_doneAtFeast_20 : decode cX4_doneAtFeast 20 = .ok (.iload_n 1, 1) := by decide +kernel
theorem dX4_doneAtFeast_21 : decode cX4_doneAtFeast 21 = .ok (.sipush 200, 3) := by decide +kernel
theorem dX4_doneAtFeast_24 : decode cX4_doneAtFeast 24 = .ok (.if_icmp .le 5, 3) := by decide +kernel
theorem dX4_doneAtFeast_27 : decode cX4_doneAtFeast 27 = .ok (.iconst (-1), 1) := by decide +kernel
theorem dX4_doneAtFeast_28 : decode cX4_doneAtFeast 28 = .ok (.ireturn, 1) := by decide +kernel
theorem dX4_doneAtFeast_29 : decode cX4_doneAtFeast 29 = .ok (.aload_n 0, 1) := by decide +kernel
theorem dX4_doneAtFeast_30 : decode cX4_doneAtFeast 30 = .ok (.getfield 16, 3) := by decide +kernel
theorem dX4_doneAtFeast_33 : decode cX4_doneAtFeast 33 = .ok (.aload_n 0, 1) := by decide +kernel
theorem dX4_doneAtFeast_34 : decode cX4_doneAtFeast 34 = .ok (.getfield 10, 3) := by decide +kernel
theorem dX4_doneAtFeast_37 : decode cX4_doneAtFeast 37 = .ok (.invokevirtual 170, 3) := by decide +kernel
theorem dX4_doneAtFeast_40 : decode cX4_doneAtFeast 40 = .ok (.aload_n 0, 1) := by decide +kernel
theorem dX4_doneAtFeast_41 : decode cX4_doneAtFeast 41 = .ok (.getfield 16, 3) := by decide +kernel
theorem dX4_doneAtFeast_44 : decode cX4_doneAtFeast 44 = .ok (.iload_n 1, 1) := by decide +kernel
theorem dX4_doneAtFeast_45 : decode cX4_doneAtFeast 45 = .ok (.invokevirtual 118, 3) := by decide +kernel
theorem dX4_doneAtFeast_48 : decode cX4_doneAtFeast 48 = .ok (.pop, 1) := by decide +kernel
theorem dX4_doneAtFeast_49 : decode cX4_doneAtFeast 49 = .ok (.aload_n 0, 1) := by decide +kernel
theorem dX4_doneAtFeast_50 : decode cX4_doneAtFeast 50 = .ok (.getfield 16, 3) := by decide +kernel
theorem dX4_doneAtFeast_53 : decode cX4_doneAtFeast 53 = .ok (.invokevirtual 180, 3) := by decide +kernel
theorem dX4_doneAtFeast_56 : decode cX4_doneAtFeast 56 = .ok (.ireturn, 1) := by decide +kernel
theorem dX4_bestEach_0 : decode cX4_bestEach 0 = .ok (.aload_n 0, 1) := by decide +kernel
theorem dX4_bestEach_1 : decode cX4_bestEach 1 = .ok (.iload_n 1, 1) := by decide +kernel
theorem dX4_bestEach_2 : decode cX4_bestEach 2 = .ok (.invokevirtual 60, 3) := by decide +kernel
theorem dX4_bestEach_5 : decode cX4_bestEach 5 = .ok (.pop, 1) := by decide +kernel
theorem dX4_bestEach_6 : decode cX4_bestEach 6 = .ok (.iconst (-1), 1) := by decide +kernel
theorem dX4_bestEach_7 : decode cX4_bestEach 7 = .ok (.istore_n 2, 1) := by decide +kernel
theorem dX4_bestEach_8 : decode cX4_bestEach 8 = .ok (.sipush 201, 3) := by decide +kernel
theorem dX4_bestEach_11 : decode cX4_bestEach 11 = .ok (.istore_n 3, 1) := by decide +kernel
theorem dX4_bestEach_12 : decode cX4_bestEach 12 = .ok (.iconst 1, 1) := by decide +kernel
theorem dX4_bestEach_13 : decode cX4_bestEach 13 = .ok (.istore 4, 2) := by decide +kernel
theorem dX4_bestEach_15 : decode cX4_bestEach 15 = .ok (.iload 4, 2) := by decide +kernel
theorem dX4_bestEach_17 : decode cX4_bestEach 17 = .ok (.bipush 9, 2) := by decide +kernel
theorem dX4_bestEach_19 : decode cX4_bestEach 19 = .ok (.if_icmp .gt 36, 3) := by decide +kernel
theorem dX4_bestEach_22 : decode cX4_bestEach 22 = .ok (.aload_n 0, 1) := by decide +kernel
theorem dX4_bestEach_23 : decode cX4_bestEach 23 = .ok (.iload_n 1, 1) := by decide +kernel
theorem dX4_bestEach_24 : decode cX4_bestEach 24 = .ok (.iload 4, 2) := by decide +kernel
theorem dX4_bestEach_26 : decode cX4_bestEach 26 = .ok (.invokevirtual 183, 3) := by decide +kernel
theorem dX4_bestEach_29 : decode cX4_bestEach 29 = .ok (.istore 5, 2) := by decide +kernel
theorem dX4_bestEach_31 : decode cX4_bestEach 31 = .ok (.iload 5, 2) := by decide +kernel
theorem dX4_bestEach_33 : decode cX4_bestEach 33 = .ok (.iconst (-1), 1) := by decide +kernel
theorem dX4_bestEach_34 : decode cX4_bestEach 34 = .ok (.if_icmp .eq 15, 3) := by decide +kernel
theorem dX4_bestEach_37 : decode cX4_bestEach 37 = .ok (.iload 5, 2) := by decide +kernel
theorem dX4_bestEach_39 : decode cX4_bestEach 39 = .ok (.iload_n 3, 1) := by decide +kernel
theorem dX4_bestEach_40 : decode cX4_bestEach 40 = .ok (.if_icmp .ge 9, 3) := by decide +kernel
theorem dX4_bestEach_43 : decode cX4_bestEach 43 = .ok (.iload 5, 2) := by decide +kernel
theorem dX4_bestEach_45 : decode cX4_bestEach 45 = .ok (.istore_n 3, 1) := by decide +kernel
theorem dX4_bestEach_46 : decode cX4_bestEach 46 = .ok (.iload 4, 2) := by decide +kernel
theorem dX4_bestEach_48 : decode cX4_bestEach 48 = .ok (.istore_n 2, 1) := by decide +kernel
theorem dX4_bestEach_49 : decode cX4_bestEach 49 = .ok (.iinc 4 1, 3) := by decide +kernel
theorem dX4_bestEach_52 : decode cX4_bestEach 52 = .ok (.goto (-37), 3) := by decide +kernel
theorem dX4_bestEach_55 : decode cX4_bestEach 55 = .ok (.iload_n 2, 1) := by decide +kernel
theorem dX4_bestEach_56 : decode cX4_bestEach 56 = .ok (.ireturn, 1) := by decide +kernel
theorem dX4_bestSpit_0 : decode cX4_bestSpit 0 = .ok (.iload_n 1, 1) := by decide +kernel
theorem dX4_bestSpit_1 : decode cX4_bestSpit 1 = .ok (.invokestatic 82, 3) := by decide +kernel
theorem dX4_bestSpit_4 : decode cX4_bestSpit 4 = .ok (.aload_n 0, 1) := by decide +kernel
theorem dX4_bestSpit_5 : decode cX4_bestSpit 5 = .ok (.getfield 10, 3) := by decide +kernel
theorem dX4_bestSpit_8 : decode cX4_bestSpit 8 = .ok (.getfield 141, 3) := by decide +kernel
theorem dX4_bestSpit_11 : decode cX4_bestSpit 11 = .ok (.bipush 16, 2) := by decide +kernel
theorem dX4_bestSpit_13 : decode cX4_bestSpit 13 = .ok (.if_icmp .lt 13, 3) := by decide +kernel
theorem dX4_bestSpit_16 : decode cX4_bestSpit 16 = .ok (.new 23, 3) := by decide +kernel
theorem dX4_bestSpit_19 : decode cX4_bestSpit 19 = .ok (.dup, 1) := by decide +kernel
theorem dX4_bestSpit_20 : decode cX4_bestSpit 20 = .ok (.ldc 186, 2) := by decide +kernel
theorem dX4_bestSpit_22 : decode cX4_bestSpit 22 = .ok (.invokespecial 27, 3) := by decide +kernel
theorem dX4_bestSpit_25 : decode cX4_bestSpit 25 = .ok (.athrow, 1) := by decide +kernel
theorem dX4_bestSpit_26 : decode cX4_bestSpit 26 = .ok (.iconst (-1), 1) := by decide +kernel
theorem dX4_bestSpit_27 : decode cX4_bestSpit 27 = .ok (.istore_n 2, 1) := by decide +kernel
theorem dX4_bestSpit_28 : decode cX4_bestSpit 28 = .ok (.sipush 201, 3) := by decide +kernel
theorem dX4_bestSpit_31 : decode cX4_bestSpit 31 = .ok (.istore_n 3, 1) := by decide +kernel
theorem dX4_bestSpit_32 : decode cX4_bestSpit 32 = .ok (.iconst 0, 1) := by decide +kernel
theorem dX4_bestSpit_33 : decode cX4_bestSpit 33 = .ok (.istore 4, 2) := by decide +kernel
theorem dX4_bestSpit_35 : decode cX4_bestSpit 35 = .ok (.iload 4, 2) := by decide +kernel
theorem dX4_bestSpit_37 : decode cX4_bestSpit 37 = .ok (.aload_n 0, 1) := by decide +kernel
theorem dX4_bestSpit_38 : decode cX4_bestSpit 38 = .ok (.getfield 10, 3) := by decide +kernel
theorem dX4_bestSpit_41 : decode cX4_bestSpit 41 = .ok (.getfield 131, 3) := by decide +kernel
theorem dX4_bestSpit_44 : decode cX4_bestSpit 44 = .ok (.if_icmp .ge 36, 3) := by decide +kernel
theorem dX4_bestSpit_47 : decode cX4_bestSpit 47 = .ok (.aload_n 0, 1) := by decide +kernel
theorem dX4_bestSpit_48 : decode cX4_bestSpit 48 = .ok (.iload 4, 2) := by decide +kernel
theorem dX4_bestSpit_50 : decode cX4_bestSpit 50 = .ok (.iload_n 1, 1) := by decide +kernel
theorem dX4_bestSpit_51 : decode cX4_bestSpit 51 = .ok (.invokevirtual 188, 3) := by decide +kernel
theorem dX4_bestSpit_54 : decode cX4_bestSpit 54 = .ok (.istore 5, 2) := by decide +kernel
theorem dX4_bestSpit_56 : decode cX4_bestSpit 56 = .ok (.iload 5, 2) := by decide +kernel
theorem dX4_bestSpit_58 : decode cX4_bestSpit 58 = .ok (.iconst (-1), 1) := by decide +kernel
theorem dX4_bestSpit_59 : decode cX4_bestSpit 59 = .ok (.if_icmp .eq 15, 3) := by decide +kernel
theorem dX4_bestSpit_62 : decode cX4_bestSpit 62 = .ok (.iload 5, 2) := by decide +kernel
theorem dX4_bestSpit_64 : decode cX4_bestSpit 64 = .ok (.iload_n 3, 1) := by decide +kernel
theorem dX4_bestSpit_65 : decode cX4_bestSpit 65 = .ok (.if_icmp .ge 9, 3) := by decide +kernel
theorem dX4_bestSpit_68 : decode cX4_bestSpit 68 = .ok (.iload 5, 2) := by decide +kernel
theorem dX4_bestSpit_70 : decode cX4_bestSpit 70 = .ok (.istore_n 3, 1) := by decide +kernel
theorem dX4_bestSpit_71 : decode cX4_bestSpit 71 = .ok (.iload 4, 2) := by decide +kernel
theorem dX4_bestSpit_73 : decode cX4_bestSpit 73 = .ok (.istore_n 2, 1) := by decide +kernel
theorem dX4_bestSpit_74 : decode cX4_bestSpit 74 = .ok (.iinc 4 1, 3) := by decide +kernel
theorem dX4_bestSpit_77 : decode cX4_bestSpit 77 = .ok (.goto (-42), 3) := by decide +kernel
theorem dX4_bestSpit_80 : decode cX4_bestSpit 80 = .ok (.iload_n 2, 1) := by decide +kernel
theorem dX4_bestSpit_81 : decode cX4_bestSpit 81 = .ok (.ireturn, 1) := by decide +kernel
theorem dX4_meanBrown_0 : decode cX4_meanBrown 0 = .ok (.aload_n 0, 1) := by decide +kernel
theorem dX4_meanBrown_1 : decode cX4_meanBrown 1 = .ok (.getfield 10, 3) := by decide +kernel
theorem dX4_meanBrown_4 : decode cX4_meanBrown 4 = .ok (.getfield 141, 3) := by decide +kernel
theorem dX4_meanBrown_7 : decode cX4_meanBrown 7 = .ok (.iconst 4, 1) := by decide +kernel
theorem dX4_meanBrown_8 : decode cX4_meanBrown 8 = .ok (.imul, 1) := by decide +kernel
theorem dX4_meanBrown_9 : decode cX4_meanBrown 9 = .ok (.istore_n 1, 1) := by decide +kernel
theorem dX4_meanBrown_10 : decode cX4_meanBrown 10 = .ok (.iload_n 1, 1) := by decide +kernel
theorem dX4_meanBrown_11 : decode cX4_meanBrown 11 = .ok (.ifCond .gt 5, 3) := by decide +kernel
theorem dX4_meanBrown_14 : decode cX4_meanBrown 14 = .ok (.dconst 0, 1) := by decide +kernel
theorem dX4_meanBrown_15 : decode cX4_meanBrown 15 = .ok (.dreturn, 1) := by decide +kernel
theorem dX4_meanBrown_16 : decode cX4_meanBrown 16 = .ok (.aload_n 0, 1) := by decide +kernel
theorem dX4_meanBrown_17 : decode cX4_meanBrown 17 = .ok (.getfield 10, 3) := by decide +kernel
theorem dX4_meanBrown_20 : decode cX4_meanBrown 20 = .ok (.invokevirtual 191, 3) := by decide +kernel
theorem dX4_meanBrown_23 : decode cX4_meanBrown 23 = .ok (.i2d, 1) := by decide +kernel
theorem dX4_meanBrown_24 : decode cX4_meanBrown 24 = .ok (.iload_n 1, 1) := by decide +kernel
theorem dX4_meanBrown_25 : decode cX4_meanBrown 25 = .ok (.i2d, 1) := by decide +kernel
theorem dX4_meanBrown_26 : decode cX4_meanBrown 26 = .ok (.ddiv, 1) := by decide +kernel
theorem dX4_meanBrown_27 : decode cX4_meanBrown 27 = .ok (.dreturn, 1) := by decide +kernel
theorem dX4_digest_0 : decode cX4_digest 0 = .ok (.ldc2_w 194, 3) := by decide +kernel
theorem dX4_digest_3 : decode cX4_digest 3 = .ok (.lstore_n 1, 1) := by decide +kernel
theorem dX4_digest_4 : decode cX4_digest 4 = .ok (.lload_n 1, 1) := by decide +kernel
theorem dX4_digest_5 : decode cX4_digest 5 = .ok (.aload_n 0, 1) := by decide +kernel
theorem dX4_digest_6 : decode cX4_digest 6 = .ok (.getfield 10, 3) := by decide +kernel
theorem dX4_digest_9 : decode cX4_digest 9 = .ok (.getfield 122, 3) := by decide +kernel
theorem dX4_digest_12 : decode cX4_digest 12 = .ok (.i2l, 1) := by decide +kernel
theorem dX4_digest_13 : decode cX4_digest 13 = .ok (.invokestatic 196, 3) := by decide +kernel
theorem dX4_digest_16 : decode cX4_digest 16 = .ok (.lstore_n 1, 1) := by decide +kernel
theorem dX4_digest_17 : decode cX4_digest 17 = .ok (.lload_n 1, 1) := by decide +kernel
theorem dX4_digest_18 : decode cX4_digest 18 = .ok (.aload_n 0, 1) := by decide +kernel
theorem dX4_digest_19 : decode cX4_digest 19 = .ok (.getfield 10, 3) := by decide +kernel
theorem dX4_digest_22 : decode cX4_digest 22 = .ok (.getfield 79, 3) := by decide +kernel
theorem dX4_digest_25 : decode cX4_digest 25 = .ok (.i2l, 1) := by decide +kernel
theorem dX4_digest_26 : decode cX4_digest 26 = .ok (.invokestatic 196, 3) := by decide +kernel
theorem dX4_digest_29 : decode cX4_digest 29 = .ok (.lstore_n 1, 1) := by decide +kernel
theorem dX4_digest_30 : decode cX4_digest 30 = .ok (.lload_n 1, 1) := by decide +kernel
theorem dX4_digest_31 : decode cX4_digest 31 = .ok (.aload_n 0, 1) := by decide +kernel
theorem dX4_digest_32 : decode cX4_digest 32 = .ok (.getfield 10, 3) := by decide +kernel
theorem dX4_digest_35 : decode cX4_digest 35 = .ok (.getfield 125, 3) := by decide +kernel
theorem dX4_digest_38 : decode cX4_digest 38 = .ok (.i2l, 1) := by decide +kernel
theorem dX4_digest_39 : decode cX4_digest 39 = .ok (.invokestatic 196, 3) := by decide +kernel
theorem dX4_digest_42 : decode cX4_digest 42 = .ok (.lstore_n 1, 1) := by decide +kernel
theorem dX4_digest_43 : decode cX4_digest 43 = .ok (.lload_n 1, 1) := by decide +kernel
theorem dX4_digest_44 : decode cX4_digest 44 = .ok (.aload_n 0, 1) := by decide +kernel
theorem dX4_digest_45 : decode cX4_digest 45 = .ok (.getfield 10, 3) := by decide +kernel
theorem dX4_digest_48 : decode cX4_digest 48 = .ok (.getfield 131, 3) := by decide +kernel
theorem dX4_digest_51 : decode cX4_digest 51 = .ok (.i2l, 1) := by decide +kernel
theorem dX4_digest_52 : decode cX4_digest 52 = .ok (.invokestatic 196, 3) := by decide +kernel
theorem dX4_digest_55 : decode cX4_digest 55 = .ok (.lstore_n 1, 1) := by decide +kernel
theorem dX4_digest_56 : decode cX4_digest 56 = .ok (.lload_n 1, 1) := by decide +kernel
theorem dX4_digest_57 : decode cX4_digest 57 = .ok (.aload_n 0, 1) := by decide +kernel
theorem dX4_digest_58 : decode cX4_digest 58 = .ok (.getfield 10, 3) := by decide +kernel
end
section
theorem dX4_digest_61 : decode cX4_digest 61 = .ok (.getfield 141, 3) := by decide +kernel
theorem dX4_digest_64 : decode cX4_digest 64 = .ok (.i2l, 1) := by decide +kernel
theorem dX4_digest_65 : decode cX4_digest 65 = .ok (.invokestatic 196, 3) := by decide +kernel
theorem dX4_digest_68 : decode cX4_digest 68 = .ok (.lstore_n 1, 1) := by decide +kernel
theorem dX4_digest_69 : decode cX4_digest 69 = .ok (.aload_n 0, 1) := by decide +kernel
theorem dX4_digest_70 : decode cX4_digest 70 = .ok (.lload_n 1, 1) := by decide +kernel
theorem dX4_digest_71 : decode cX4_digest 71 = .ok (.invokevirtual 200, 3) := by decide +kernel
theorem dX4_digest_74 : decode cX4_digest 74 = .ok (.lstore_n 1, 1) := by decide +kernel
theorem dX4_digest_75 : decode cX4_digest 75 = .ok (.aload_n 0, 1) := by decide +kernel
theorem dX4_digest_76 : decode cX4_digest 76 = .ok (.lload_n 1, 1) := by decide +kernel
theorem dX4_digest_77 : decode cX4_digest 77 = .ok (.invokevirtual 204, 3) := by decide +kernel
theorem dX4_digest_80 : decode cX4_digest 80 = .ok (.lstore_n 1, 1) := by decide +kernel
theorem dX4_digest_81 : decode cX4_digest 81 = .ok (.aload_n 0, 1) := by decide +kernel
theorem dX4_digest_82 : decode cX4_digest 82 = .ok (.lload_n 1, 1) := by decide +kernel
theorem dX4_digest_83 : decode cX4_digest 83 = .ok (.invokevirtual 207, 3) := by decide +kernel
theorem dX4_digest_86 : decode cX4_digest 86 = .ok (.lreturn, 1) := by decide +kernel
theorem dX4_needFire_0 : decode cX4_needFire 0 = .ok (.aload_n 0, 1) := by decide +kernel
theorem dX4_needFire_1 : decode cX4_needFire 1 = .ok (.getfield 10, 3) := by decide +kernel
theorem dX4_needFire_4 : decode cX4_needFire 4 = .ok (.iload_n 1, 1) := by decide +kernel
theorem dX4_needFire_5 : decode cX4_needFire 5 = .ok (.invokevirtual 210, 3) := by decide +kernel
theorem dX4_needFire_8 : decode cX4_needFire 8 = .ok (.astore_n 2, 1) := by decide +kernel
theorem dX4_needFire_9 : decode cX4_needFire 9 = .ok (.aload_n 2, 1) := by decide +kernel
theorem dX4_needFire_10 : decode cX4_needFire 10 = .ok (.ifnonnull 13, 3) := by decide +kernel
theorem dX4_needFire_13 : decode cX4_needFire 13 = .ok (.new 155, 3) := by decide +kernel
theorem dX4_needFire_16 : decode cX4_needFire 16 = .ok (.dup, 1) := by decide +kernel
theorem dX4_needFire_17 : decode cX4_needFire 17 = .ok (.ldc 213, 2) := by decide +kernel
theorem dX4_needFire_19 : decode cX4_needFire 19 = .ok (.invokespecial 159, 3) := by decide +kernel
theorem dX4_needFire_22 : decode cX4_needFire 22 = .ok (.athrow, 1) := by decide +kernel
theorem dX4_needFire_23 : decode cX4_needFire 23 = .ok (.aload_n 2, 1) := by decide +kernel
theorem dX4_needFire_24 : decode cX4_needFire 24 = .ok (.areturn, 1) := by decide +kernel
theorem dX4_needSpit_0 : decode cX4_needSpit 0 = .ok (.aload_n 0, 1) := by decide +kernel
theorem dX4_needSpit_1 : decode cX4_needSpit 1 = .ok (.getfield 10, 3) := by decide +kernel
theorem dX4_needSpit_4 : decode cX4_needSpit 4 = .ok (.iload_n 1, 1) := by decide +kernel
theorem dX4_needSpit_5 : decode cX4_needSpit 5 = .ok (.invokevirtual 215, 3) := by decide +kernel
theorem dX4_needSpit_8 : decode cX4_needSpit 8 = .ok (.astore_n 2, 1) := by decide +kernel
theorem dX4_needSpit_9 : decode cX4_needSpit 9 = .ok (.aload_n 2, 1) := by decide +kernel
theorem dX4_needSpit_10 : decode cX4_needSpit 10 = .ok (.ifnonnull 13, 3) := by decide +kernel
theorem dX4_needSpit_13 : decode cX4_needSpit 13 = .ok (.new 155, 3) := by decide +kernel
theorem dX4_needSpit_16 : decode cX4_needSpit 16 = .ok (.dup, 1) := by decide +kernel
theorem dX4_needSpit_17 : decode cX4_needSpit 17 = .ok (.ldc 218, 2) := by decide +kernel
theorem dX4_needSpit_19 : decode cX4_needSpit 19 = .ok (.invokespecial 159, 3) := by decide +kernel
theorem dX4_needSpit_22 : decode cX4_needSpit 22 = .ok (.athrow, 1) := by decide +kernel
theorem dX4_needSpit_23 : decode cX4_needSpit 23 = .ok (.aload_n 2, 1) := by decide +kernel
theorem dX4_needSpit_24 : decode cX4_needSpit 24 = .ok (.areturn, 1) := by decide +kernel
theorem dX4_needRoast_0 : decode cX4_needRoast 0 = .ok (.aload_n 0, 1) := by decide +kernel
theorem dX4_needRoast_1 : decode cX4_needRoast 1 = .ok (.getfield 10, 3) := by decide +kernel
theorem dX4_needRoast_4 : decode cX4_needRoast 4 = .ok (.iload_n 1, 1) := by decide +kernel
theorem dX4_needRoast_5 : decode cX4_needRoast 5 = .ok (.invokevirtual 220, 3) := by decide +kernel
theorem dX4_needRoast_8 : decode cX4_needRoast 8 = .ok (.astore_n 2, 1) := by decide +kernel
theorem dX4_needRoast_9 : decode cX4_needRoast 9 = .ok (.aload_n 2, 1) := by decide +kernel
theorem dX4_needRoast_10 : decode cX4_needRoast 10 = .ok (.ifnonnull 13, 3) := by decide +kernel
theorem dX4_needRoast_13 : decode cX4_needRoast 13 = .ok (.new 155, 3) := by decide +kernel
theorem dX4_needRoast_16 : decode cX4_needRoast 16 = .ok (.dup, 1) := by decide +kernel
theorem dX4_needRoast_17 : decode cX4_needRoast 17 = .ok (.ldc 223, 2) := by decide +kernel
theorem dX4_needRoast_19 : decode cX4_needRoast 19 = .ok (.invokespecial 159, 3) := by decide +kernel
theorem dX4_needRoast_22 : decode cX4_needRoast 22 = .ok (.athrow, 1) := by decide +kernel
theorem dX4_needRoast_23 : decode cX4_needRoast 23 = .ok (.aload_n 2, 1) := by decide +kernel
theorem dX4_needRoast_24 : decode cX4_needRoast 24 = .ok (.areturn, 1) := by decide +kernel
theorem dX4_needRoastOf_0 : decode cX4_needRoastOf 0 = .ok (.aload_n 0, 1) := by decide +kernel
theorem dX4_needRoastOf_1 : decode cX4_needRoastOf 1 = .ok (.getfield 10, 3) := by decide +kernel
theorem dX4_needRoastOf_4 : decode cX4_needRoastOf 4 = .ok (.aload_n 1, 1) := by decide +kernel
theorem dX4_needRoastOf_5 : decode cX4_needRoastOf 5 = .ok (.getfield 110, 3) := by decide +kernel
theorem dX4_needRoastOf_8 : decode cX4_needRoastOf 8 = .ok (.invokevirtual 220, 3) := by decide +kernel
theorem dX4_needRoastOf_11 : decode cX4_needRoastOf 11 = .ok (.astore_n 2, 1) := by decide +kernel
theorem dX4_needRoastOf_12 : decode cX4_needRoastOf 12 = .ok (.aload_n 2, 1) := by decide +kernel
theorem dX4_needRoastOf_13 : decode cX4_needRoastOf 13 = .ok (.ifnonnull 13, 3) := by decide +kernel
theorem dX4_needRoastOf_16 : decode cX4_needRoastOf 16 = .ok (.new 23, 3) := by decide +kernel
theorem dX4_needRoastOf_19 : decode cX4_needRoastOf 19 = .ok (.dup, 1) := by decide +kernel
theorem dX4_needRoastOf_20 : decode cX4_needRoastOf 20 = .ok (.ldc 225, 2) := by decide +kernel
theorem dX4_needRoastOf_22 : decode cX4_needRoastOf 22 = .ok (.invokespecial 27, 3) := by decide +kernel
theorem dX4_needRoastOf_25 : decode cX4_needRoastOf 25 = .ok (.athrow, 1) := by decide +kernel
theorem dX4_needRoastOf_26 : decode cX4_needRoastOf 26 = .ok (.aload_n 2, 1) := by decide +kernel
theorem dX4_needRoastOf_27 : decode cX4_needRoastOf 27 = .ok (.areturn, 1) := by decide +kernel
theorem dX4_needFeet_0 : decode cX4_needFeet 0 = .ok (.iload_n 0, 1) := by decide +kernel
theorem dX4_needFeet_1 : decode cX4_needFeet 1 = .ok (.iconst 1, 1) := by decide +kernel
theorem dX4_needFeet_2 : decode cX4_needFeet 2 = .ok (.if_icmp .lt 8, 3) := by decide +kernel
theorem dX4_needFeet_5 : decode cX4_needFeet 5 = .ok (.iload_n 0, 1) := by decide +kernel
theorem dX4_needFeet_6 : decode cX4_needFeet 6 = .ok (.iconst 3, 1) := by decide +kernel
theorem dX4_needFeet_7 : decode cX4_needFeet 7 = .ok (.if_icmp .le 13, 3) := by decide +kernel
theorem dX4_needFeet_10 : decode cX4_needFeet 10 = .ok (.new 34, 3) := by decide +kernel
theorem dX4_needFeet_13 : decode cX4_needFeet 13 = .ok (.dup, 1) := by decide +kernel
theorem dX4_needFeet_14 : decode cX4_needFeet 14 = .ok (.ldc 227, 2) := by decide +kernel
theorem dX4_needFeet_16 : decode cX4_needFeet 16 = .ok (.invokespecial 38, 3) := by decide +kernel
theorem dX4_needFeet_19 : decode cX4_needFeet 19 = .ok (.athrow, 1) := by decide +kernel
theorem dX4_needFeet_20 : decode cX4_needFeet 20 = .ok (.return_, 1) := by decide +kernel
theorem dX4_needPounds_0 : decode cX4_needPounds 0 = .ok (.iload_n 0, 1) := by decide +kernel
theorem dX4_needPounds_1 : decode cX4_needPounds 1 = .ok (.iconst 1, 1) := by decide +kernel
theorem dX4_needPounds_2 : decode cX4_needPounds 2 = .ok (.if_icmp .lt 9, 3) := by decide +kernel
theorem dX4_needPounds_5 : decode cX4_needPounds 5 = .ok (.iload_n 0, 1) := by decide +kernel
theorem dX4_needPounds_6 : decode cX4_needPounds 6 = .ok (.bipush 12, 2) := by decide +kernel
theorem dX4_needPounds_8 : decode cX4_needPounds 8 = .ok (.if_icmp .le 13, 3) := by decide +kernel
theorem dX4_needPounds_11 : decode cX4_needPounds 11 = .ok (.new 34, 3) := by decide +kernel
theorem dX4_needPounds_14 : decode cX4_needPounds 14 = .ok (.dup, 1) := by decide +kernel
theorem dX4_needPounds_15 : decode cX4_needPounds 15 = .ok (.ldc 229, 2) := by decide +kernel
theorem dX4_needPounds_17 : decode cX4_needPounds 17 = .ok (.invokespecial 38, 3) := by decide +kernel
theorem dX4_needPounds_20 : decode cX4_needPounds 20 = .ok (.athrow, 1) := by decide +kernel
theorem dX4_needPounds_21 : decode cX4_needPounds 21 = .ok (.return_, 1) := by decide +kernel
theorem dX4_aheadUntilDone_0 : decode cX4_aheadUntilDone 0 = .ok (.aload_n 0, 1) := by decide +kernel
theorem dX4_aheadUntilDone_1 : decode cX4_aheadUntilDone 1 = .ok (.getfield 16, 3) := by decide +kernel
theorem dX4_aheadUntilDone_4 : decode cX4_aheadUntilDone 4 = .ok (.iload_n 1, 1) := by decide +kernel
theorem dX4_aheadUntilDone_5 : decode cX4_aheadUntilDone 5 = .ok (.invokevirtual 220, 3) := by decide +kernel
theorem dX4_aheadUntilDone_8 : decode cX4_aheadUntilDone 8 = .ok (.astore_n 2, 1) := by decide +kernel
theorem dX4_aheadUntilDone_9 : decode cX4_aheadUntilDone 9 = .ok (.aload_n 2, 1) := by decide +kernel
theorem dX4_aheadUntilDone_10 : decode cX4_aheadUntilDone 10 = .ok (.ifnonnull 5, 3) := by decide +kernel
theorem dX4_aheadUntilDone_13 : decode cX4_aheadUntilDone 13 = .ok (.iconst (-1), 1) := by decide +kernel
theorem dX4_aheadUntilDone_14 : decode cX4_aheadUntilDone 14 = .ok (.ireturn, 1) := by decide +kernel
theorem dX4_aheadUntilDone_15 : decode cX4_aheadUntilDone 15 = .ok (.iconst 0, 1) := by decide +kernel
theorem dX4_aheadUntilDone_16 : decode cX4_aheadUntilDone 16 = .ok (.istore_n 3, 1) := by decide +kernel
theorem dX4_aheadUntilDone_17 : decode cX4_aheadUntilDone 17 = .ok (.iload_n 3, 1) := by decide +kernel
theorem dX4_aheadUntilDone_18 : decode cX4_aheadUntilDone 18 = .ok (.sipush 200, 3) := by decide +kernel
theorem dX4_aheadUntilDone_21 : decode cX4_aheadUntilDone 21 = .ok (.if_icmp .ge 33, 3) := by decide +kernel
theorem dX4_aheadUntilDone_24 : decode cX4_aheadUntilDone 24 = .ok (.aload_n 2, 1) := by decide +kernel
theorem dX4_aheadUntilDone_25 : decode cX4_aheadUntilDone 25 = .ok (.invokevirtual 167, 3) := by decide +kernel
theorem dX4_aheadUntilDone_28 : decode cX4_aheadUntilDone 28 = .ok (.ifCond .ne 26, 3) := by decide +kernel
theorem dX4_aheadUntilDone_31 : decode cX4_aheadUntilDone 31 = .ok (.aload_n 2, 1) := by decide +kernel
theorem dX4_aheadUntilDone_32 : decode cX4_aheadUntilDone 32 = .ok (.invokevirtual 163, 3) := by decide +kernel
theorem dX4_aheadUntilDone_35 : decode cX4_aheadUntilDone 35 = .ok (.ifCond .eq 5, 3) := by decide +kernel
theorem dX4_aheadUntilDone_38 : decode cX4_aheadUntilDone 38 = .ok (.iload_n 3, 1) := by decide +kernel
theorem dX4_aheadUntilDone_39 : decode cX4_aheadUntilDone 39 = .ok (.ireturn, 1) := by decide +kernel
theorem dX4_aheadUntilDone_40 : decode cX4_aheadUntilDone 40 = .ok (.aload_n 0, 1) := by decide +kernel
theorem dX4_aheadUntilDone_41 : decode cX4_aheadUntilDone 41 = .ok (.getfield 16, 3) := by decide +kernel
theorem dX4_aheadUntilDone_44 : decode cX4_aheadUntilDone 44 = .ok (.invokevirtual 231, 3) := by decide +kernel
theorem dX4_aheadUntilDone_47 : decode cX4_aheadUntilDone 47 = .ok (.pop, 1) := by decide +kernel
theorem dX4_aheadUntilDone_48 : decode cX4_aheadUntilDone 48 = .ok (.iinc 3 1, 3) := by decide +kernel
theorem dX4_aheadUntilDone_51 : decode cX4_aheadUntilDone 51 = .ok (.goto (-34), 3) := by decide +kernel
theorem dX4_aheadUntilDone_54 : decode cX4_aheadUntilDone 54 = .ok (.aload_n 2, 1) := by decide +kernel
theorem dX4_aheadUntilDone_55 : decode cX4_aheadUntilDone 55 = .ok (.invokevirtual 163, 3) := by decide +kernel
theorem dX4_aheadUntilDone_58 : decode cX4_aheadUntilDone 58 = .ok (.ifCond .eq 9, 3) := by decide +kernel
theorem dX4_aheadUntilDone_61 : decode cX4_aheadUntilDone 61 = .ok (.sipush 200, 3) := by decide +kernel
theorem dX4_aheadUntilDone_64 : decode cX4_aheadUntilDone 64 = .ok (.goto 4, 3) := by decide +kernel
theorem dX4_aheadUntilDone_67 : decode cX4_aheadUntilDone 67 = .ok (.iconst (-1), 1) := by decide +kernel
theorem dX4_aheadUntilDone_68 : decode cX4_aheadUntilDone 68 = .ok (.ireturn, 1) := by decide +kernel
theorem dX4_aheadUntilBurnt_0 : decode cX4_aheadUntilBurnt 0 = .ok (.aload_n 0, 1) := by decide +kernel
theorem dX4_aheadUntilBurnt_1 : decode cX4_aheadUntilBurnt 1 = .ok (.getfield 16, 3) := by decide +kernel
theorem dX4_aheadUntilBurnt_4 : decode cX4_aheadUntilBurnt 4 = .ok (.iload_n 1, 1) := by decide +kernel
theorem dX4_aheadUntilBurnt_5 : decode cX4_aheadUntilBurnt 5 = .ok (.invokevirtual 220, 3) := by decide +kernel
theorem dX4_aheadUntilBurnt_8 : decode cX4_aheadUntilBurnt 8 = .ok (.astore_n 2, 1) := by decide +kernel
theorem dX4_aheadUntilBurnt_9 : decode cX4_aheadUntilBurnt 9 = .ok (.aload_n 2, 1) := by decide +kernel
theorem dX4_aheadUntilBurnt_10 : decode cX4_aheadUntilBurnt 10 = .ok (.ifnonnull 5, 3) := by decide +kernel
theorem dX4_aheadUntilBurnt_13 : decode cX4_aheadUntilBurnt 13 = .ok (.iconst (-1), 1) := by decide +kernel
theorem dX4_aheadUntilBurnt_14 : decode cX4_aheadUntilBurnt 14 = .ok (.ireturn, 1) := by decide +kernel
theorem dX4_aheadUntilBurnt_15 : decode cX4_aheadUntilBurnt 15 = .ok (.iconst 0, 1) := by decide +kernel
theorem dX4_aheadUntilBurnt_16 : decode cX4_aheadUntilBurnt 16 = .ok (.istore_n 3, 1) := by decide +kernel
theorem dX4_aheadUntilBurnt_17 : decode cX4_aheadUntilBurnt 17 = .ok (.iload_n 3, 1) := by decide +kernel
theorem dX4_aheadUntilBurnt_18 : decode cX4_aheadUntilBurnt 18 = .ok (.sipush 200, 3) := by decide +kernel
theorem dX4_aheadUntilBurnt_21 : decode cX4_aheadUntilBurnt 21 = .ok (.if_icmp .ge 26, 3) := by decide +kernel
theorem dX4_aheadUntilBurnt_24 : decode cX4_aheadUntilBurnt 24 = .ok (.aload_n 2, 1) := by decide +kernel
theorem dX4_aheadUntilBurnt_25 : decode cX4_aheadUntilBurnt 25 = .ok (.invokevirtual 167, 3) := by decide +kernel
theorem dX4_aheadUntilBurnt_28 : decode cX4_aheadUntilBurnt 28 = .ok (.ifCond .eq 5, 3) := by decide +kernel
theorem dX4_aheadUntilBurnt_31 : decode cX4_aheadUntilBurnt 31 = .ok (.iload_n 3, 1) := by decide +kernel
theorem dX4_aheadUntilBurnt_32 : decode cX4_aheadUntilBurnt 32 = .ok (.ireturn, 1) := by decide +kernel
theorem dX4_aheadUntilBurnt_33 : decode cX4_aheadUntilBurnt 33 = .ok (.aload_n 0, 1) := by decide +kernel
theorem dX4_aheadUntilBurnt_34 : decode cX4_aheadUntilBurnt 34 = .ok (.getfield 16, 3) := by decide +kernel
theorem dX4_aheadUntilBurnt_37 : decode cX4_aheadUntilBurnt 37 = .ok (.invokevirtual 231, 3) := by decide +kernel
theorem dX4_aheadUntilBurnt_40 : decode cX4_aheadUntilBurnt 40 = .ok (.pop, 1) := by decide +kernel
theorem dX4_aheadUntilBurnt_41 : decode cX4_aheadUntilBurnt 41 = .ok (.iinc 3 1, 3) := by decide +kernel
theorem dX4_aheadUntilBurnt_44 : decode cX4_aheadUntilBurnt 44 = .ok (.goto (-27), 3) := by decide +kernel
theorem dX4_aheadUntilBurnt_47 : decode cX4_aheadUntilBurnt 47 = .ok (.aload_n 2, 1) := by decide +kernel
theorem dX4_aheadUntilBurnt_48 : decode cX4_aheadUntilBurnt 48 = .ok (.invokevirtual 167, 3) := by decide +kernel
theorem dX4_aheadUntilBurnt_51 : decode cX4_aheadUntilBurnt 51 = .ok (.ifCond .eq 9, 3) := by decide +kernel
theorem dX4_aheadUntilBurnt_54 : decode cX4_aheadUntilBurnt 54 = .ok (.sipush 200, 3) := by decide +kernel
theorem dX4_aheadUntilBurnt_57 : decode cX4_aheadUntilBurnt 57 = .ok (.goto 4, 3) := by decide +kernel
theorem dX4_aheadUntilBurnt_60 : decode cX4_aheadUntilBurnt 60 = .ok (.iconst (-1), 1) := by decide +kernel
theorem dX4_aheadUntilBurnt_61 : decode cX4_aheadUntilBurnt 61 = .ok (.ireturn, 1) := by decide +kernel
theorem dX4_untilDoneTurnedEach_0 : decode cX4_untilDoneTurnedEach 0 = .ok (.aload_n 0, 1) := by decide +kernel
theorem dX4_untilDoneTurnedEach_1 : decode cX4_untilDoneTurnedEach 1 = .ok (.getfield 16, 3) := by decide +kernel
theorem dX4_untilDoneTurnedEach_4 : decode cX4_untilDoneTurnedEach 4 = .ok (.aload_n 0, 1) := by decide +kernel
theorem dX4_untilDoneTurnedEach_5 : decode cX4_untilDoneTurnedEach 5 = .ok (.getfield 10, 3) := by decide +kernel
theorem dX4_untilDoneTurnedEach_8 : decode cX4_untilDoneTurnedEach 8 = .ok (.invokevirtual 170, 3) := by decide +kernel
theorem dX4_untilDoneTurnedEach_11 : decode cX4_untilDoneTurnedEach 11 = .ok (.aload_n 0, 1) := by decide +kernel
theorem dX4_untilDoneTurnedEach_12 : decode cX4_untilDoneTurnedEach 12 = .ok (.getfield 16, 3) := by decide +kernel
theorem dX4_untilDoneTurnedEach_15 : decode cX4_untilDoneTurnedEach 15 = .ok (.iload_n 1, 1) := by decide +kernel
theorem dX4_untilDoneTurnedEach_16 : decode cX4_untilDoneTurnedEach 16 = .ok (.invokevirtual 215, 3) := by decide +kernel
theorem dX4_untilDoneTurnedEach_19 : decode cX4_untilDoneTurnedEach 19 = .ok (.astore_n 3, 1) := by decide +kernel
theorem dX4_untilDoneTurnedEach_20 : decode cX4_untilDoneTurnedEach 20 = .ok (.aload_n 3, 1) := by decide +kernel
theorem dX4_untilDoneTurnedEach_21 : decode cX4_untilDoneTurnedEach 21 = .ok (.ifnonnull 5, 3) := by decide +kernel
theorem dX4_untilDoneTurnedEach_24 : decode cX4_untilDoneTurnedEach 24 = .ok (.iconst (-1), 1) := by decide +kernel
theorem dX4_untilDoneTurnedEach_25 : decode cX4_untilDoneTurnedEach 25 = .ok (.ireturn, 1) := by decide +kernel
theorem dX4_untilDoneTurnedEach_26 : decode cX4_untilDoneTurnedEach 26 = .ok (.aload_n 3, 1) := by decide +kernel
theorem dX4_untilDoneTurnedEach_27 : decode cX4_untilDoneTurnedEach 27 = .ok (.iload_n 2, 1) := by decide +kernel
theorem dX4_untilDoneTurnedEach_28 : decode cX4_untilDoneTurnedEach 28 = .ok (.invokevirtual 74, 3) := by decide +kernel
theorem dX4_untilDoneTurnedEach_31 : decode cX4_untilDoneTurnedEach 31 = .ok (.aload_n 0, 1) := by decide +kernel
theorem dX4_untilDoneTurnedEach_32 : decode cX4_untilDoneTurnedEach 32 = .ok (.aload_n 3, 1) := by decide +kernel
theorem dX4_untilDoneTurnedEach_33 : decode cX4_untilDoneTurnedEach 33 = .ok (.getfield 110, 3) := by decide +kernel
theorem dX4_untilDoneTurnedEach_36 : decode cX4_untilDoneTurnedEach 36 = .ok (.invokevirtual 174, 3) := by decide +kernel
theorem dX4_untilDoneTurnedEach_39 : decode cX4_untilDoneTurnedEach 39 = .ok (.ireturn, 1) := by decide +kernel
theorem dX4_untilDoneHungOn_0 : decode cX4_untilDoneHungOn 0 = .ok (.aload_n 0, 1) := by decide +kernel
theorem dX4_untilDoneHungOn_1 : decode cX4_untilDoneHungOn 1 = .ok (.getfield 16, 3) := by decide +kernel
theorem dX4_untilDoneHungOn_4 : decode cX4_untilDoneHungOn 4 = .ok (.aload_n 0, 1) := by decide +kernel
theorem dX4_untilDoneHungOn_5 : decode cX4_untilDoneHungOn 5 = .ok (.getfield 10, 3) := by decide +kernel
theorem dX4_untilDoneHungOn_8 : decode cX4_untilDoneHungOn 8 = .ok (.invokevirtual 170, 3) := by decide +kernel
theorem dX4_untilDoneHungOn_11 : decode cX4_untilDoneHungOn 11 = .ok (.aload_n 0, 1) := by decide +kernel
theorem dX4_untilDoneHungOn_12 : decode cX4_untilDoneHungOn 12 = .ok (.aload_n 0, 1) := by decide +kernel
theorem dX4_untilDoneHungOn_13 : decode cX4_untilDoneHungOn 13 = .ok (.getfield 16, 3) := by decide +kernel
theorem dX4_untilDoneHungOn_16 : decode cX4_untilDoneHungOn 16 = .ok (.iload_n 1, 1) := by decide +kernel
theorem dX4_untilDoneHungOn_17 : decode cX4_untilDoneHungOn 17 = .ok (.iload_n 2, 1) := by decide +kernel
theorem dX4_untilDoneHungOn_18 : decode cX4_untilDoneHungOn 18 = .ok (.invokevirtual 85, 3) := by decide +kernel
theorem dX4_untilDoneHungOn_21 : decode cX4_untilDoneHungOn 21 = .ok (.invokevirtual 174, 3) := by decide +kernel
theorem dX4_untilDoneHungOn_24 : decode cX4_untilDoneHungOn 24 = .ok (.ireturn, 1) := by decide +kernel
theorem dX4_mix_0 : decode cX4_mix 0 = .ok (.lload_n 0, 1) := by decide +kernel
theorem dX4_mix_1 : decode cX4_mix 1 = .ok (.ldc2_w 234, 3) := by decide +kernel
theorem dX4_mix_4 : decode cX4_mix 4 = .ok (.lmul, 1) := by decide +kernel
theorem dX4_mix_5 : decode cX4_mix 5 = .ok (.lload_n 2, 1) := by decide +kernel
theorem dX4_mix_6 : decode cX4_mix 6 = .ok (.ladd, 1) := by decide +kernel
theorem dX4_mix_7 : decode cX4_mix 7 = .ok (.lreturn, 1) := by decide +kernel
theorem dX4_mixFires_0 : decode cX4_mixFires 0 = .ok (.lload_n 1, 1) := by decide +kernel
theorem dX4_mixFires_1 : decode cX4_mixFires 1 = .ok (.lstore_n 3, 1) := by decide +kernel
theorem dX4_mixFires_2 : decode cX4_mixFires 2 = .ok (.iconst 0, 1) := by decide +kernel
theorem dX4_mixFires_3 : decode cX4_mixFires 3 = .ok (.istore 5, 2) := by decide +kernel
theorem dX4_mixFires_5 : decode cX4_mixFires 5 = .ok (.iload 5, 2) := by decide +kernel
theorem dX4_mixFires_7 : decode cX4_mixFires 7 = .ok (.aload_n 0, 1) := by decide +kernel
theorem dX4_mixFires_8 : decode cX4_mixFires 8 = .ok (.getfield 10, 3) := by decide +kernel
theorem dX4_mixFires_11 : decode cX4_mixFires 11 = .ok (.getfield 236, 3) := by decide +kernel
theorem dX4_mixFires_14 : decode cX4_mixFires 14 = .ok (.arraylength, 1) := by decide +kernel
theorem dX4_mixFires_15 : decode cX4_mixFires 15 = .ok (.if_icmp .ge 55, 3) := by decide +kernel
theorem dX4_mixFires_18 : decode cX4_mixFires 18 = .ok (.iload 5, 2) := by decide +kernel
theorem dX4_mixFires_20 : decode cX4_mixFires 20 = .ok (.aload_n 0, 1) := by decide +kernel
theorem dX4_mixFires_21 : decode cX4_mixFires 21 = .ok (.getfield 10, 3) := by decide +kernel
theorem dX4_mixFires_24 : decode cX4_mixFires 24 = .ok (.getfield 125, 3) := by decide +kernel
theorem dX4_mixFires_27 : decode cX4_mixFires 27 = .ok (.if_icmp .ge 43, 3) := by decide +kernel
theorem dX4_mixFires_30 : decode cX4_mixFires 30 = .ok (.aload_n 0, 1) := by decide +kernel
theorem dX4_mixFires_31 : decode cX4_mixFires 31 = .ok (.getfield 10, 3) := by decide +kernel
theorem dX4_mixFires_34 : decode cX4_mixFires 34 = .ok (.getfield 236, 3) := by decide +kernel
theorem dX4_mixFires_37 : decode cX4_mixFires 37 = .ok (.iload 5, 2) := by decide +kernel
theorem dX4_mixFires_39 : decode cX4_mixFires 39 = .ok (.aaload, 1) := by decide +kernel
theorem dX4_mixFires_40 : decode cX4_mixFires 40 = .ok (.astore 6, 2) := by decide +kernel
theorem dX4_mixFires_42 : decode cX4_mixFires 42 = .ok (.lload_n 3, 1) := by decide +kernel
theorem dX4_mixFires_43 : decode cX4_mixFires 43 = .ok (.aload 6, 2) := by decide +kernel
theorem dX4_mixFires_45 : decode cX4_mixFires 45 = .ok (.getfield 39, 3) := by decide +kernel
theorem dX4_mixFires_48 : decode cX4_mixFires 48 = .ok (.i2l, 1) := by decide +kernel
theorem dX4_mixFires_49 : decode cX4_mixFires 49 = .ok (.invokestatic 196, 3) := by decide +kernel
theorem dX4_mixFires_52 : decode cX4_mixFires 52 = .ok (.lstore_n 3, 1) := by decide +kernel
theorem dX4_mixFires_53 : decode cX4_mixFires 53 = .ok (.lload_n 3, 1) := by decide +kernel
theorem dX4_mixFires_54 : decode cX4_mixFires 54 = .ok (.aload 6, 2) := by decide +kernel
theorem dX4_mixFires_56 : decode cX4_mixFires 56 = .ok (.getfield 128, 3) := by decide +kernel
theorem dX4_mixFires_59 : decode cX4_mixFires 59 = .ok (.i2l, 1) := by decide +kernel
theorem dX4_mixFires_60 : decode cX4_mixFires 60 = .ok (.invokestatic 196, 3) := by decide +kernel
theorem dX4_mixFires_63 : decode cX4_mixFires 63 = .ok (.lstore_n 3, 1) := by decide +kernel
theorem dX4_mixFires_64 : decode cX4_mixFires 64 = .ok (.iinc 5 1, 3) := by decide +kernel
theorem dX4_mixFires_67 : decode cX4_mixFires 67 = .ok (.goto (-62), 3) := by decide +kernel
theorem dX4_mixFires_70 : decode cX4_mixFires 70 = .ok (.lload_n 3, 1) := by decide +kernel
theorem dX4_mixFires_71 : decode cX4_mixFires 71 = .ok (.lreturn, 1) := by decide +kernel
theorem dX4_mixSpits_0 : decode cX4_mixSpits 0 = .ok (.lload_n 1, 1) := by decide +kernel
theorem dX4_mixSpits_1 : decode cX4_mixSpits 1 = .ok (.lstore_n 3, 1) := by decide +kernel
theorem dX4_mixSpits_2 : decode cX4_mixSpits 2 = .ok (.iconst 0, 1) := by decide +kernel
theorem dX4_mixSpits_3 : decode cX4_mixSpits 3 = .ok (.istore 5, 2) := by decide +kernel
theorem dX4_mixSpits_5 : decode cX4_mixSpits 5 = .ok (.iload 5, 2) := by decide +kernel
theorem dX4_mixSpits_7 : decode cX4_mixSpits 7 = .ok (.aload_n 0, 1) := by decide +kernel
theorem dX4_mixSpits_8 : decode cX4_mixSpits 8 = .ok (.getfield 10, 3) := by decide +kernel
theorem dX4_mixSpits_11 : decode cX4_mixSpits 11 = .ok (.getfield 240, 3) := by decide +kernel
theorem dX4_mixSpits_14 : decode cX4_mixSpits 14 = .ok (.arraylength, 1) := by decide +kernel
theorem dX4_mixSpits_15 : decode cX4_mixSpits 15 = .ok (.if_icmp .ge 103, 3) := by decide +kernel
theorem dX4_mixSpits_18 : decode cX4_mixSpits 18 = .ok (.iload 5, 2) := by decide +kernel
theorem dX4_mixSpits_20 : decode cX4_mixSpits 20 = .ok (.aload_n 0, 1) := by decide +kernel
theorem dX4_mixSpits_21 : decode cX4_mixSpits 21 = .ok (.getfield 10, 3) := by decide +kernel
theorem dX4_mixSpits_24 : decode cX4_mixSpits 24 = .ok (.getfield 131, 3) := by decide +kernel
theorem dX4_mixSpits_27 : decode cX4_mixSpits 27 = .ok (.if_icmp .ge 91, 3) := by decide +kernel
theorem dX4_mixSpits_30 : decode cX4_mixSpits 30 = .ok (.aload_n 0, 1) := by decide +kernel
theorem dX4_mixSpits_31 : decode cX4_mixSpits 31 = .ok (.getfield 10, 3) := by decide +kernel
theorem dX4_mixSpits_34 : decode cX4_mixSpits 34 = .ok (.getfield 240, 3) := by decide +kernel
theorem dX4_mixSpits_37 : decode cX4_mixSpits 37 = .ok (.iload 5, 2) := by decide +kernel
theorem dX4_mixSpits_39 : decode cX4_mixSpits 39 = .ok (.aaload, 1) := by decide +kernel
theorem dX4_mixSpits_40 : decode cX4_mixSpits 40 = .ok (.astore 6, 2) := by decide +kernel
theorem dX4_mixSpits_42 : decode cX4_mixSpits 42 = .ok (.lload_n 3, 1) := by decide +kernel
theorem dX4_mixSpits_43 : decode cX4_mixSpits 43 = .ok (.aload 6, 2) := by decide +kernel
theorem dX4_mixSpits_45 : decode cX4_mixSpits 45 = .ok (.getfield 134, 3) := by decide +kernel
theorem dX4_mixSpits_48 : decode cX4_mixSpits 48 = .ok (.i2l, 1) := by decide +kernel
theorem dX4_mixSpits_49 : decode cX4_mixSpits 49 = .ok (.invokestatic 196, 3) := by decide +kernel
theorem dX4_mixSpits_52 : decode cX4_mixSpits 52 = .ok (.lstore_n 3, 1) := by decide +kernel
theorem dX4_mixSpits_53 : decode cX4_mixSpits 53 = .ok (.lload_n 3, 1) := by decide +kernel
theorem dX4_mixSpits_54 : decode cX4_mixSpits 54 = .ok (.aload 6, 2) := by decide +kernel
theorem dX4_mixSpits_56 : decode cX4_mixSpits 56 = .ok (.getfield 64, 3) := by decide +kernel
theorem dX4_mixSpits_59 : decode cX4_mixSpits 59 = .ok (.i2l, 1) := by decide +kernel
theorem dX4_mixSpits_60 : decode cX4_mixSpits 60 = .ok (.invokestatic 196, 3) := by decide +kernel
theorem dX4_mixSpits_63 : decode cX4_mixSpits 63 = .ok (.lstore_n 3, 1) := by decide +kernel
theorem dX4_mixSpits_64 : decode cX4_mixSpits 64 = .ok (.lload_n 3, 1) := by decide +kernel
theorem dX4_mixSpits_65 : decode cX4_mixSpits 65 = .ok (.aload_n 0, 1) := by decide +kernel
theorem dX4_mixSpits_66 : decode cX4_mixSpits 66 = .ok (.getfield 10, 3) := by decide +kernel
theorem dX4_mixSpits_69 : decode cX4_mixSpits 69 = .ok (.aload 6, 2) := by decide +kernel
theorem dX4_mixSpits_71 : decode cX4_mixSpits 71 = .ok (.invokevirtual 137, 3) := by decide +kernel
theorem dX4_mixSpits_74 : decode cX4_mixSpits 74 = .ok (.i2l, 1) := by decide +kernel
theorem dX4_mixSpits_75 : decode cX4_mixSpits 75 = .ok (.invokestatic 196, 3) := by decide +kernel
theorem dX4_mixSpits_78 : decode cX4_mixSpits 78 = .ok (.lstore_n 3, 1) := by decide +kernel
theorem dX4_mixSpits_79 : decode cX4_mixSpits 79 = .ok (.lload_n 3, 1) := by decide +kernel
theorem dX4_mixSpits_80 : decode cX4_mixSpits 80 = .ok (.aload 6, 2) := by decide +kernel
theorem dX4_mixSpits_82 : decode cX4_mixSpits 82 = .ok (.getfield 71, 3) := by decide +kernel
theorem dX4_mixSpits_85 : decode cX4_mixSpits 85 = .ok (.i2l, 1) := by decide +kernel
theorem dX4_mixSpits_86 : decode cX4_mixSpits 86 = .ok (.invokestatic 196, 3) := by decide +kernel
theorem dX4_mixSpits_89 : decode cX4_mixSpits 89 = .ok (.lstore_n 3, 1) := by decide +kernel
theorem dX4_mixSpits_90 : decode cX4_mixSpits 90 = .ok (.lload_n 3, 1) := by decide +kernel
theorem dX4_mixSpits_91 : decode cX4_mixSpits 91 = .ok (.aload 6, 2) := by decide +kernel
theorem dX4_mixSpits_93 : decode cX4_mixSpits 93 = .ok (.getfield 102, 3) := by decide +kernel
theorem dX4_mixSpits_96 : decode cX4_mixSpits 96 = .ok (.i2l, 1) := by decide +kernel
theorem dX4_mixSpits_97 : decode cX4_mixSpits 97 = .ok (.invokestatic 196, 3) := by decide +kernel
theorem dX4_mixSpits_100 : decode cX4_mixSpits 100 = .ok (.lstore_n 3, 1) := by decide +kernel
theorem dX4_mixSpits_101 : decode cX4_mixSpits 101 = .ok (.lload_n 3, 1) := by decide +kernel
theorem dX4_mixSpits_102 : decode cX4_mixSpits 102 = .ok (.aload 6, 2) := by decide +kernel
theorem dX4_mixSpits_104 : decode cX4_mixSpits 104 = .ok (.getfield 110, 3) := by decide +kernel
theorem dX4_mixSpits_107 : decode cX4_mixSpits 107 = .ok (.i2l, 1) := by decide +kernel
theorem dX4_mixSpits_108 : decode cX4_mixSpits 108 = .ok (.invokestatic 196, 3) := by decide +kernel
theorem dX4_mixSpits_111 : decode cX4_mixSpits 111 = .ok (.lstore_n 3, 1) := by decide +kernel
theorem dX4_mixSpits_112 : decode cX4_mixSpits 112 = .ok (.iinc 5 1, 3) := by decide +kernel
theorem dX4_mixSpits_115 : decode cX4_mixSpits 115 = .ok (.goto (-110), 3) := by decide +kernel
theorem dX4_mixSpits_118 : decode cX4_mixSpits 118 = .ok (.lload_n 3, 1) := by decide +kernel
theorem dX4_mixSpits_119 : decode cX4_mixSpits 119 = .ok (.lreturn, 1) := by decide +kernel
theorem dX4_mixRoasts_0 : decode cX4_mixRoasts 0 = .ok (.lload_n 1, 1) := by decide +kernel
theorem dX4_mixRoasts_1 : decode cX4_mixRoasts 1 = .ok (.lstore_n 3, 1) := by decide +kernel
theorem dX4_mixRoasts_2 : decode cX4_mixRoasts 2 = .ok (.iconst 0, 1) := by decide +kernel
theorem dX4_mixRoasts_3 : decode cX4_mixRoasts 3 = .ok (.istore 5, 2) := by decide +kernel
theorem dX4_mixRoasts_5 : decode cX4_mixRoasts 5 = .ok (.iload 5, 2) := by decide +kernel
theorem dX4_mixRoasts_7 : decode cX4_mixRoasts 7 = .ok (.aload_n 0, 1) := by decide +kernel
theorem dX4_mixRoasts_8 : decode cX4_mixRoasts 8 = .ok (.getfield 10, 3) := by decide +kernel
theorem dX4_mixRoasts_11 : decode cX4_mixRoasts 11 = .ok (.getfield 244, 3) := by decide +kernel
theorem dX4_mixRoasts_14 : decode cX4_mixRoasts 14 = .ok (.arraylength, 1) := by decide +kernel
theorem dX4_mixRoasts_15 : decode cX4_mixRoasts 15 = .ok (.if_icmp .ge 167, 3) := by decide +kernel
theorem dX4_mixRoasts_18 : decode cX4_mixRoasts 18 = .ok (.iload 5, 2) := by decide +kernel
theorem dX4_mixRoasts_20 : decode cX4_mixRoasts 20 = .ok (.aload_n 0, 1) := by decide +kernel
theorem dX4_mixRoasts_21 : decode cX4_mixRoasts 21 = .ok (.getfield 10, 3) := by decide +kernel
theorem dX4_mixRoasts_24 : decode cX4_mixRoasts 24 = .ok (.getfield 141, 3) := by decide +kernel
theorem dX4_mixRoasts_27 : decode cX4_mixRoasts 27 = .ok (.if_icmp .ge 155, 3) := by decide +kernel
theorem dX4_mixRoasts_30 : decode cX4_mixRoasts 30 = .ok (.aload_n 0, 1) := by decide +kernel
theorem dX4_mixRoasts_31 : decode cX4_mixRoasts 31 = .ok (.getfield 10, 3) := by decide +kernel
theorem dX4_mixRoasts_34 : decode cX4_mixRoasts 34 = .ok (.getfield 244, 3) := by decide +kernel
theorem dX4_mixRoasts_37 : decode cX4_mixRoasts 37 = .ok (.iload 5, 2) := by decide +kernel
theorem dX4_mixRoasts_39 : decode cX4_mixRoasts 39 = .ok (.aaload, 1) := by decide +kernel
theorem dX4_mixRoasts_40 : decode cX4_mixRoasts 40 = .ok (.astore 6, 2) := by decide +kernel
theorem dX4_mixRoasts_42 : decode cX4_mixRoasts 42 = .ok (.lload_n 3, 1) := by decide +kernel
theorem dX4_mixRoasts_43 : decode cX4_mixRoasts 43 = .ok (.aload 6, 2) := by decide +kernel
theorem dX4_mixRoasts_45 : decode cX4_mixRoasts 45 = .ok (.getfield 148, 3) := by decide +kernel
theorem dX4_mixRoasts_48 : decode cX4_mixRoasts 48 = .ok (.i2l, 1) := by decide +kernel
theorem dX4_mixRoasts_49 : decode cX4_mixRoasts 49 = .ok (.invokestatic 196, 3) := by decide +kernel
theorem dX4_mixRoasts_52 : decode cX4_mixRoasts 52 = .ok (.lstore_n 3, 1) := by decide +kernel
theorem dX4_mixRoasts_53 : decode cX4_mixRoasts 53 = .ok (.lload_n 3, 1) := by decide +kernel
theorem dX4_mixRoasts_54 : decode cX4_mixRoasts 54 = .ok (.aload 6, 2) := by decide +kernel
theorem dX4_mixRoasts_56 : decode cX4_mixRoasts 56 = .ok (.getfield 113, 3) := by decide +kernel
theorem dX4_mixRoasts_59 : decode cX4_mixRoasts 59 = .ok (.i2l, 1) := by decide +kernel
theorem dX4_mixRoasts_60 : decode cX4_mixRoasts 60 = .ok (.invokestatic 196, 3) := by decide +kernel
theorem dX4_mixRoasts_63 : decode cX4_mixRoasts 63 = .ok (.lstore_n 3, 1) := by decide +kernel
theorem dX4_mixRoasts_64 : decode cX4_mixRoasts 64 = .ok (.lload_n 3, 1) := by decide +kernel
theorem dX4_mixRoasts_65 : decode cX4_mixRoasts 65 = .ok (.aload 6, 2) := by decide +kernel
theorem dX4_mixRoasts_67 : decode cX4_mixRoasts 67 = .ok (.getfield 99, 3) := by decide +kernel
theorem dX4_mixRoasts_70 : decode cX4_mixRoasts 70 = .ok (.i2l, 1) := by decide +kernel
theorem dX4_mixRoasts_71 : decode cX4_mixRoasts 71 = .ok (.invokestatic 196, 3) := by decide +kernel
theorem dX4_mixRoasts_74 : decode cX4_mixRoasts 74 = .ok (.lstore_n 3, 1) := by decide +kernel
theorem dX4_mixRoasts_75 : decode cX4_mixRoasts 75 = .ok (.lload_n 3, 1) := by decide +kernel
theorem dX4_mixRoasts_76 : decode cX4_mixRoasts 76 = .ok (.aload 6, 2) := by decide +kernel
theorem dX4_mixRoasts_78 : decode cX4_mixRoasts 78 = .ok (.getfield 160, 3) := by decide +kernel
theorem dX4_mixRoasts_81 : decode cX4_mixRoasts 81 = .ok (.i2l, 1) := by decide +kernel
theorem dX4_mixRoasts_82 : decode cX4_mixRoasts 82 = .ok (.invokestatic 196, 3) := by decide +kernel
theorem dX4_mixRoasts_85 : decode cX4_mixRoasts 85 = .ok (.lstore_n 3, 1) := by decide +kernel
theorem dX4_mixRoasts_86 : decode cX4_mixRoasts 86 = .ok (.lload_n 3, 1) := by decide +kernel
theorem dX4_mixRoasts_87 : decode cX4_mixRoasts 87 = .ok (.aload 6, 2) := by decide +kernel
theorem dX4_mixRoasts_89 : decode cX4_mixRoasts 89 = .ok (.getfield 107, 3) := by decide +kernel
theorem dX4_mixRoasts_92 : decode cX4_mixRoasts 92 = .ok (.i2l, 1) := by decide +kernel
theorem dX4_mixRoasts_93 : decode cX4_mixRoasts 93 = .ok (.invokestatic 196, 3) := by decide +kernel
theorem dX4_mixRoasts_96 : decode cX4_mixRoasts 96 = .ok (.lstore_n 3, 1) := by decide +kernel
theorem dX4_mixRoasts_97 : decode cX4_mixRoasts 97 = .ok (.lload_n 3, 1) := by decide +kernel
theorem dX4_mixRoasts_98 : decode cX4_mixRoasts 98 = .ok (.aload 6, 2) := by decide +kernel
theorem dX4_mixRoasts_100 : decode cX4_mixRoasts 100 = .ok (.invokevirtual 163, 3) := by decide +kernel
theorem dX4_mixRoasts_103 : decode cX4_mixRoasts 103 = .ok (.ifCond .eq 7, 3) := by decide +kernel
theorem dX4_mixRoasts_106 : decode cX4_mixRoasts 106 = .ok (.lconst 1, 1) := by decide +kernel
theorem dX4_mixRoasts_107 : decode cX4_mixRoasts 107 = .ok (.goto 4, 3) := by decide +kernel
theorem dX4_mixRoasts_110 : decode cX4_mixRoasts 110 = .ok (.lconst 0, 1) := by decide +kernel
theorem dX4_mixRoasts_111 : decode cX4_mixRoasts 111 = .ok (.invokestatic 196, 3) := by decide +kernel
theorem dX4_mixRoasts_114 : decode cX4_mixRoasts 114 = .ok (.lstore_n 3, 1) := by decide +kernel
theorem dX4_mixRoasts_115 : decode cX4_mixRoasts 115 = .ok (.lload_n 3, 1) := by decide +kernel
theorem dX4_mixRoasts_116 : decode cX4_mixRoasts 116 = .ok (.aload 6, 2) := by decide +kernel
theorem dX4_mixRoasts_118 : decode cX4_mixRoasts 118 = .ok (.invokevirtual 167, 3) := by decide +kernel
theorem dX4_mixRoasts_121 : decode cX4_mixRoasts 121 = .ok (.ifCond .eq 7, 3) := by decide +kernel
theorem dX4_mixRoasts_124 : decode cX4_mixRoasts 124 = .ok (.lconst 1, 1) := by decide +kernel
theorem dX4_mixRoasts_125 : decode cX4_mixRoasts 125 = .ok (.goto 4, 3) := by decide +kernel
theorem dX4_mixRoasts_128 : decode cX4_mixRoasts 128 = .ok (.lconst 0, 1) := by decide +kernel
theorem dX4_mixRoasts_129 : decode cX4_mixRoasts 129 = .ok (.invokestatic 196, 3) := by decide +kernel
theorem dX4_mixRoasts_132 : decode cX4_mixRoasts 132 = .ok (.lstore_n 3, 1) := by decide +kernel
theorem dX4_mixRoasts_133 : decode cX4_mixRoasts 133 = .ok (.aload 6, 2) := by decide +kernel
theorem dX4_mixRoasts_135 : decode cX4_mixRoasts 135 = .ok (.getfield 151, 3) := by decide +kernel
theorem dX4_mixRoasts_138 : decode cX4_mixRoasts 138 = .ok (.astore 7, 2) := by decide +kernel
theorem dX4_mixRoasts_140 : decode cX4_mixRoasts 140 = .ok (.aload 7, 2) := by decide +kernel
theorem dX4_mixRoasts_142 : decode cX4_mixRoasts 142 = .ok (.arraylength, 1) := by decide +kernel
theorem dX4_mixRoasts_143 : decode cX4_mixRoasts 143 = .ok (.istore 8, 2) := by decide +kernel
theorem dX4_mixRoasts_145 : decode cX4_mixRoasts 145 = .ok (.iconst 0, 1) := by decide +kernel
theorem dX4_mixRoasts_146 : decode cX4_mixRoasts 146 = .ok (.istore 9, 2) := by decide +kernel
theorem dX4_mixRoasts_148 : decode cX4_mixRoasts 148 = .ok (.iload 9, 2) := by decide +kernel
theorem dX4_mixRoasts_150 : decode cX4_mixRoasts 150 = .ok (.iload 8, 2) := by decide +kernel
theorem dX4_mixRoasts_152 : decode cX4_mixRoasts 152 = .ok (.if_icmp .ge 24, 3) := by decide +kernel
theorem dX4_mixRoasts_155 : decode cX4_mixRoasts 155 = .ok (.aload 7, 2) := by decide +kernel
theorem dX4_mixRoasts_157 : decode cX4_mixRoasts 157 = .ok (.iload 9, 2) := by decide +kernel
theorem dX4_mixRoasts_159 : decode cX4_mixRoasts 159 = .ok (.iaload, 1) := by decide +kernel
theorem dX4_mixRoasts_160 : decode cX4_mixRoasts 160 = .ok (.istore 10, 2) := by decide +kernel
theorem dX4_mixRoasts_162 : decode cX4_mixRoasts 162 = .ok (.lload_n 3, 1) := by decide +kernel
theorem dX4_mixRoasts_163 : decode cX4_mixRoasts 163 = .ok (.iload 10, 2) := by decide +kernel
theorem dX4_mixRoasts_165 : decode cX4_mixRoasts 165 = .ok (.i2l, 1) := by decide +kernel
theorem dX4_mixRoasts_166 : decode cX4_mixRoasts 166 = .ok (.invokestatic 196, 3) := by decide +kernel
theorem dX4_mixRoasts_169 : decode cX4_mixRoasts 169 = .ok (.lstore_n 3, 1) := by decide +kernel
theorem dX4_mixRoasts_170 : decode cX4_mixRoasts 170 = .ok (.iinc 9 1, 3) := by decide +kernel
theorem dX4_mixRoasts_173 : decode cX4_mixRoasts 173 = .ok (.goto (-25), 3) := by decide +kernel
theorem dX4_mixRoasts_176 : decode cX4_mixRoasts 176 = .ok (.iinc 5 1, 3) := by decide +kernel
theorem dX4_mixRoasts_179 : decode cX4_mixRoasts 179 = .ok (.goto (-174), 3) := by decide +kernel
theorem dX4_mixRoasts_182 : decode cX4_mixRoasts 182 = .ok (.lload_n 3, 1) := by decide +kernel
theorem dX4_mixRoasts_183 : decode cX4_mixRoasts 183 = .ok (.lreturn, 1) := by decide +kernel
theorem dX5_init_0 : decode cX5_init 0 = .ok (.aload_n 0, 1) := by decide +kernel
theorem dX5_init_1 : decode cX5_init 1 = .ok (.invokespecial 1, 3) := by decide +kernel
theorem dX5_init_4 : decode cX5_init 4 = .ok (.aload_n 0, 1) := by decide +kernel
theorem dX5_init_5 : decode cX5_init 5 = .ok (.bipush 120, 2) := by decide +kernel
theorem dX5_init_7 : decode cX5_init 7 = .ok (.putfield 7, 3) := by decide +kernel
theorem dX5_init_10 : decode cX5_init 10 = .ok (.aload_n 0, 1) := by decide +kernel
theorem dX5_init_11 : decode cX5_init 11 = .ok (.bipush 6, 2) := by decide +kernel
theorem dX5_init_13 : decode cX5_init 13 = .ok (.newarray .int, 2) := by decide +kernel
theorem dX5_init_15 : decode cX5_init 15 = .ok (.putfield 13, 3) := by decide +kernel
theorem dX5_init_18 : decode cX5_init 18 = .ok (.aload_n 0, 1) := by decide +kernel
theorem dX5_init_19 : decode cX5_init 19 = .ok (.bipush 16, 2) := by decide +kernel
theorem dX5_init_21 : decode cX5_init 21 = .ok (.newarray .int, 2) := by decide +kernel
theorem dX5_init_23 : decode cX5_init 23 = .ok (.putfield 17, 3) := by decide +kernel
theorem dX5_init_26 : decode cX5_init 26 = .ok (.aload_n 0, 1) := by decide +kernel
theorem dX5_init_27 : decode cX5_init 27 = .ok (.bipush 16, 2) := by decide +kernel
theorem dX5_init_29 : decode cX5_init 29 = .ok (.newarray .int, 2) := by decide +kernel
theorem dX5_init_31 : decode cX5_init 31 = .ok (.putfield 20, 3) := by decide +kernel
theorem dX5_init_34 : decode cX5_init 34 = .ok (.aload_n 0, 1) := by decide +kernel
theorem dX5_init_35 : decode cX5_init 35 = .ok (.iconst 3, 1) := by decide +kernel
theorem dX5_init_36 : decode cX5_init 36 = .ok (.newarray .int, 2) := by decide +kernel
theorem dX5_init_38 : decode cX5_init 38 = .ok (.putfield 23, 3) := by decide +kernel
theorem dX5_init_41 : decode cX5_init 41 = .ok (.aload_n 0, 1) := by decide +kernel
theorem dX5_init_42 : decode cX5_init 42 = .ok (.sipush 165, 3) := by decide +kernel
theorem dX5_init_45 : decode cX5_init 45 = .ok (.newarray .int, 2) := by decide +kernel
theorem dX5_init_47 : decode cX5_init 47 = .ok (.putfield 26, 3) := by decide +kernel
theorem dX5_init_50 : decode cX5_init 50 = .ok (.aload_n 0, 1) := by decide +kernel
theorem dX5_init_51 : decode cX5_init 51 = .ok (.sipush 165, 3) := by decide +kernel
theorem dX5_init_54 : decode cX5_init 54 = .ok (.newarray .int, 2) := by decide +kernel
theorem dX5_init_56 : decode cX5_init 56 = .ok (.putfield 29, 3) := by decide +kernel
theorem dX5_init_59 : decode cX5_init 59 = .ok (.return_, 1) := by decide +kernel
theorem dX5_thrown_0 : decode cX5_thrown 0 = .ok (.aload_n 0, 1) := by decide +kernel
theorem dX5_thrown_1 : decode cX5_thrown 1 = .ok (.getfield 32, 3) := by decide +kernel
theorem dX5_thrown_4 : decode cX5_thrown 4 = .ok (.ireturn, 1) := by decide +kernel
theorem dX5_fail_0 : decode cX5_fail 0 = .ok (.aload_n 0, 1) := by decide +kernel
theorem dX5_fail_1 : decode cX5_fail 1 = .ok (.iload_n 1, 1) := by decide +kernel
theorem dX5_fail_2 : decode cX5_fail 2 = .ok (.putfield 32, 3) := by decide +kernel
theorem dX5_fail_5 : decode cX5_fail 5 = .ok (.iconst 0, 1) := by decide +kernel
theorem dX5_fail_6 : decode cX5_fail 6 = .ok (.ireturn, 1) := by decide +kernel
theorem dX5_told_0 : decode cX5_told 0 = .ok (.aload_n 0, 1) := by decide +kernel
theorem dX5_told_1 : decode cX5_told 1 = .ok (.iconst 0, 1) := by decide +kernel
theorem dX5_told_2 : decode cX5_told 2 = .ok (.putfield 32, 3) := by decide +kernel
theorem dX5_told_5 : decode cX5_told 5 = .ok (.iload_n 1, 1) := by decide +kernel
theorem dX5_told_6 : decode cX5_told 6 = .ok (.ireturn, 1) := by decide +kernel
theorem dX5_isIn_0 : decode cX5_isIn 0 = .ok (.iload_n 0, 1) := by decide +kernel
theorem dX5_isIn_1 : decode cX5_isIn 1 = .ok (.iload_n 1, 1) := by decide +kernel
theorem dX5_isIn_2 : decode cX5_isIn 2 = .ok (.if_icmp .lt 12, 3) := by decide +kernel
theorem dX5_isIn_5 : decode cX5_isIn 5 = .ok (.iload_n 0, 1) := by decide +kernel
theorem dX5_isIn_6 : decode cX5_isIn 6 = .ok (.iload_n 2, 1) := by decide +kernel
theorem dX5_isIn_7 : decode cX5_isIn 7 = .ok (.if_icmp .gt 7, 3) := by decide +kernel
theorem dX5_isIn_10 : decode cX5_isIn 10 = .ok (.iconst 1, 1) := by decide +kernel
theorem dX5_isIn_11 : decode cX5_isIn 11 = .ok (.goto 4, 3) := by decide +kernel
theorem dX5_isIn_14 : decode cX5_isIn 14 = .ok (.iconst 0, 1) := by decide +kernel
theorem dX5_isIn_15 : decode cX5_isIn 15 = .ok (.ireturn, 1) := by decide +kernel
theorem dX5_isFire_0 : decode cX5_isFire 0 = .ok (.iload_n 1, 1) := by decide +kernel
theorem dX5_isFire_1 : decode cX5_isFire 1 = .ok (.iconst 0, 1) := by decide +kernel
theorem dX5_isFire_2 : decode cX5_isFire 2 = .ok (.aload_n 0, 1) := by decide +kernel
theorem dX5_isFire_3 : decode cX5_isFire 3 = .ok (.getfield 35, 3) := by decide +kernel
theorem dX5_isFire_6 : decode cX5_isFire 6 = .ok (.iconst 1, 1) := by decide +kernel
theorem dX5_isFire_7 : decode cX5_isFire 7 = .ok (.isub, 1) := by decide +kernel
theorem dX5_isFire_8 : decode cX5_isFire 8 = .ok (.invokestatic 38, 3) := by decide +kernel
theorem dX5_isFire_11 : decode cX5_isFire 11 = .ok (.ireturn, 1) := by decide +kernel
theorem dX5_isSpit_0 : decode cX5_isSpit 0 = .ok (.iload_n 1, 1) := by decide +kernel
theorem dX5_isSpit_1 : decode cX5_isSpit 1 = .ok (.iconst 0, 1) := by decide +kernel
theorem dX5_isSpit_2 : decode cX5_isSpit 2 = .ok (.aload_n 0, 1) := by decide +kernel
theorem dX5_isSpit_3 : decode cX5_isSpit 3 = .ok (.getfield 42, 3) := by decide +kernel
theorem dX5_isSpit_6 : decode cX5_isSpit 6 = .ok (.iconst 1, 1) := by decide +kernel
theorem dX5_isSpit_7 : decode cX5_isSpit 7 = .ok (.isub, 1) := by decide +kernel
theorem dX5_isSpit_8 : decode cX5_isSpit 8 = .ok (.invokestatic 38, 3) := by decide +kernel
theorem dX5_isSpit_11 : decode cX5_isSpit 11 = .ok (.ireturn, 1) := by decide +kernel
theorem dX5_isRoast_0 : decode cX5_isRoast 0 = .ok (.iload_n 1, 1) := by decide +kernel
theorem dX5_isRoast_1 : decode cX5_isRoast 1 = .ok (.iconst 0, 1) := by decide +kernel
theorem dX5_isRoast_2 : decode cX5_isRoast 2 = .ok (.aload_n 0, 1) := by decide +kernel
theorem dX5_isRoast_3 : decode cX5_isRoast 3 = .ok (.getfield 45, 3) := by decide +kernel
theorem dX5_isRoast_6 : decode cX5_isRoast 6 = .ok (.iconst 1, 1) := by decide +kernel
theorem dX5_isRoast_7 : decode cX5_isRoast 7 = .ok (.isub, 1) := by decide +kernel
theorem dX5_isRoast_8 : decode cX5_isRoast 8 = .ok (.invokestatic 38, 3) := by decide +kernel
theorem dX5_isRoast_11 : decode cX5_isRoast 11 = .ok (.ireturn, 1) := by decide +kernel
theorem dX5_fi_0 : decode cX5_fi 0 = .ok (.aload_n 0, 1) := by decide +kernel
theorem dX5_fi_1 : decode cX5_fi 1 = .ok (.getfield 26, 3) := by decide +kernel
theorem dX5_fi_4 : decode cX5_fi 4 = .ok (.iconst 1, 1) := by decide +kernel
theorem dX5_fi_5 : decode cX5_fi 5 = .ok (.iconst 2, 1) := by decide +kernel
theorem dX5_fi_6 : decode cX5_fi 6 = .ok (.iload_n 1, 1) := by decide +kernel
theorem dX5_fi_7 : decode cX5_fi 7 = .ok (.imul, 1) := by decide +kernel
theorem dX5_fi_8 : decode cX5_fi 8 = .ok (.iadd, 1) := by decide +kernel
theorem dX5_fi_9 : decode cX5_fi 9 = .ok (.iload_n 2, 1) := by decide +kernel
theorem dX5_fi_10 : decode cX5_fi 10 = .ok (.iadd, 1) := by decide +kernel
theorem dX5_fi_11 : decode cX5_fi 11 = .ok (.iaload, 1) := by decide +kernel
theorem dX5_fi_12 : decode cX5_fi 12 = .ok (.ireturn, 1) := by decide +kernel
theorem dX5_letFire_0 : decode cX5_letFire 0 = .ok (.aload_n 0, 1) := by decide +kernel
theorem dX5_letFire_1 : decode cX5_letFire 1 = .ok (.getfield 26, 3) := by decide +kernel
theorem dX5_letFire_4 : decode cX5_letFire 4 = .ok (.iconst 1, 1) := by decide +kernel
theorem dX5_letFire_5 : decode cX5_letFire 5 = .ok (.iconst 2, 1) := by decide +kernel
theorem dX5_letFire_6 : decode cX5_letFire 6 = .ok (.iload_n 1, 1) := by decide +kernel
theorem dX5_letFire_7 : decode cX5_letFire 7 = .ok (.imul, 1) := by decide +kernel
theorem dX5_letFire_8 : decode cX5_letFire 8 = .ok (.iadd, 1) := by decide +kernel
theorem dX5_letFire_9 : decode cX5_letFire 9 = .ok (.iload_n 2, 1) := by decide +kernel
theorem dX5_letFire_10 : decode cX5_letFire 10 = .ok (.iadd, 1) := by decide +kernel
theorem dX5_letFire_11 : decode cX5_letFire 11 = .ok (.iload_n 3, 1) := by decide +kernel
theorem dX5_letFire_12 : decode cX5_letFire 12 = .ok (.iastore, 1) := by decide +kernel
theorem dX5_letFire_13 : decode cX5_letFire 13 = .ok (.return_, 1) := by decide +kernel
theorem dX5_sp_0 : decode cX5_sp 0 = .ok (.aload_n 0, 1) := by decide +kernel
theorem dX5_sp_1 : decode cX5_sp 1 = .ok (.getfield 26, 3) := by decide +kernel
theorem dX5_sp_4 : decode cX5_sp 4 = .ok (.bipush 7, 2) := by decide +kernel
theorem dX5_sp_6 : decode cX5_sp 6 = .ok (.iconst 5, 1) := by decide +kernel
theorem dX5_sp_7 : decode cX5_sp 7 = .ok (.iload_n 1, 1) := by decide +kernel
theorem dX5_sp_8 : decode cX5_sp 8 = .ok (.imul, 1) := by decide +kernel
theorem dX5_sp_9 : decode cX5_sp 9 = .ok (.iadd, 1) := by decide +kernel
theorem dX5_sp_10 : decode cX5_sp 10 = .ok (.iload_n 2, 1) := by decide +kernel
theorem dX5_sp_11 : decode cX5_sp 11 = .ok (.iadd, 1) := by decide +kernel
theorem dX5_sp_12 : decode cX5_sp 12 = .ok (.iaload, 1) := by decide +kernel
theorem dX5_sp_13 : decode cX5_sp 13 = .ok (.ireturn, 1) := by decide +kernel
theorem dX5_letSpit_0 : decode cX5_letSpit 0 = .ok (.aload_n 0, 1) := by decide +kernel
theorem dX5_letSpit_1 : decode cX5_letSpit 1 = .ok (.getfield 26, 3) := by decide +kernel
theorem dX5_letSpit_4 : decode cX5_letSpit 4 = .ok (.bipush 7, 2) := by decide +kernel
theorem dX5_letSpit_6 : decode cX5_letSpit 6 = .ok (.iconst 5, 1) := by decide +kernel
theorem dX5_letSpit_7 : decode cX5_letSpit 7 = .ok (.iload_n 1, 1) := by decide +kernel
theorem dX5_letSpit_8 : decode cX5_letSpit 8 = .ok (.imul, 1) := by decide +kernel
theorem dX5_letSpit_9 : decode cX5_letSpit 9 = .ok (.iadd, 1) := by decide +kernel
theorem dX5_letSpit_10 : decode cX5_letSpit 10 = .ok (.iload_n 2, 1) := by decide +kernel
theorem dX5_letSpit_11 : decode cX5_letSpit 11 = .ok (.iadd, 1) := by decide +kernel
theorem dX5_letSpit_12 : decode cX5_letSpit 12 = .ok (.iload_n 3, 1) := by decide +kernel
theorem dX5_letSpit_13 : decode cX5_letSpit 13 = .ok (.iastore, 1) := by decide +kernel
theorem dX5_letSpit_14 : decode cX5_letSpit 14 = .ok (.return_, 1) := by decide +kernel
theorem dX5_ro_0 : decode cX5_ro 0 = .ok (.aload_n 0, 1) := by decide +kernel
theorem dX5_ro_1 : decode cX5_ro 1 = .ok (.getfield 26, 3) := by decide +kernel
theorem dX5_ro_4 : decode cX5_ro 4 = .ok (.bipush 37, 2) := by decide +kernel
theorem dX5_ro_6 : decode cX5_ro 6 = .ok (.bipush 8, 2) := by decide +kernel
theorem dX5_ro_8 : decode cX5_ro 8 = .ok (.iload_n 1, 1) := by decide +kernel
theorem dX5_ro_9 : decode cX5_ro 9 = .ok (.imul, 1) := by decide +kernel
theorem dX5_ro_10 : decode cX5_ro 10 = .ok (.iadd, 1) := by decide +kernel
theorem dX5_ro_11 : decode cX5_ro 11 = .ok (.iload_n 2, 1) := by decide +kernel
theorem dX5_ro_12 : decode cX5_ro 12 = .ok (.iadd, 1) := by decide +kernel
theorem dX5_ro_13 : decode cX5_ro 13 = .ok (.iaload, 1) := by decide +kernel
theorem dX5_ro_14 : decode cX5_ro 14 = .ok (.ireturn, 1) := by decide +kernel
theorem dX5_let_0 : decode cX5_let 0 = .ok (.aload_n 0, 1) := by decide +kernel
theorem dX5_let_1 : decode cX5_let 1 = .ok (.getfield 26, 3) := by decide +kernel
theorem dX5_let_4 : decode cX5_let 4 = .ok (.bipush 37, 2) := by decide +kernel
theorem dX5_let_6 : decode cX5_let 6 = .ok (.bipush 8, 2) := by decide +kernel
theorem dX5_let_8 : decode cX5_let 8 = .ok (.iload_n 1, 1) := by decide +kernel
theorem dX5_let_9 : decode cX5_let 9 = .ok (.imul, 1) := by decide +kernel
theorem dX5_let_10 : decode cX5_let 10 = .ok (.iadd, 1) := by decide +kernel
theorem dX5_let_11 : decode cX5_let 11 = .ok (.iload_n 2, 1) := by decide +kernel
theorem dX5_let_12 : decode cX5_let 12 = .ok (.iadd, 1) := by decide +kernel
theorem dX5_let_13 : decode cX5_let 13 = .ok (.iload_n 3, 1) := by decide +kernel
theorem dX5_let_14 : decode cX5_let 14 = .ok (.iastore, 1) := by decide +kernel
theorem dX5_let_15 : decode cX5_let 15 = .ok (.return_, 1) := by decide +kernel
theorem dX5_keep_0 : decode cX5_keep 0 = .ok (.aload_n 0, 1) := by decide +kernel
theorem dX5_keep_1 : decode cX5_keep 1 = .ok (.getfield 26, 3) := by decide +kernel
theorem dX5_keep_4 : decode cX5_keep 4 = .ok (.iconst 0, 1) := by decide +kernel
theorem dX5_keep_5 : decode cX5_keep 5 = .ok (.aload_n 0, 1) := by decide +kernel
theorem dX5_keep_6 : decode cX5_keep 6 = .ok (.getfield 29, 3) := by decide +kernel
theorem dX5_keep_9 : decode cX5_keep 9 = .ok (.iconst 0, 1) := by decide +kernel
theorem dX5_keep_10 : decode cX5_keep 10 = .ok (.sipush 165, 3) := by decide +kernel
theorem dX5_keep_13 : decode cX5_keep 13 = .ok (.invokestatic 48, 3) := by decide +kernel
theorem dX5_keep_16 : decode cX5_keep 16 = .ok (.return_, 1) := by decide +kernel
theorem dX5_bringBack_0 : decode cX5_bringBack 0 = .ok (.aload_n 0, 1) := by decide +kernel
theorem dX5_bringBack_1 : decode cX5_bringBack 1 = .ok (.getfield 29, 3) := by decide +kernel
theorem dX5_bringBack_4 : decode cX5_bringBack 4 = .ok (.iconst 0, 1) := by decide +kernel
theorem dX5_bringBack_5 : decode cX5_bringBack 5 = .ok (.aload_n 0, 1) := by decide +kernel
theorem dX5_bringBack_6 : decode cX5_bringBack 6 = .ok (.getfield 26, 3) := by decide +kernel
theorem dX5_bringBack_9 : decode cX5_bringBack 9 = .ok (.iconst 0, 1) := by decide +kernel
theorem dX5_bringBack_10 : decode cX5_bringBack 10 = .ok (.sipush 165, 3) := by decide +kernel
theorem dX5_bringBack_13 : decode cX5_bringBack 13 = .ok (.invokestatic 48, 3) := by decide +kernel
theorem dX5_bringBack_16 : decode cX5_bringBack 16 = .ok (.return_, 1) := by decide +kernel
theorem dX5_glow_0 : decode cX5_glow 0 = .ok (.aload_n 0, 1) := by decide +kernel
theorem dX5_glow_1 : decode cX5_glow 1 = .ok (.aload_n 0, 1) := by decide +kernel
theorem dX5_glow_2 : decode cX5_glow 2 = .ok (.getfield 13, 3) := by decide +kernel
theorem dX5_glow_5 : decode cX5_glow 5 = .ok (.iload_n 1, 1) := by decide +kernel
theorem dX5_glow_6 : decode cX5_glow 6 = .ok (.iaload, 1) := by decide +kernel
theorem dX5_glow_7 : decode cX5_glow 7 = .ok (.iconst 1, 1) := by decide +kernel
theorem dX5_glow_8 : decode cX5_glow 8 = .ok (.invokevirtual 54, 3) := by decide +kernel
theorem dX5_glow_11 : decode cX5_glow 11 = .ok (.aload_n 0, 1) := by decide +kernel
theorem dX5_glow_12 : decode cX5_glow 12 = .ok (.iload_n 1, 1) := by decide +kernel
theorem dX5_glow_13 : decode cX5_glow 13 = .ok (.iconst 0, 1) := by decide +kernel
theorem dX5_glow_14 : decode cX5_glow 14 = .ok (.invokevirtual 58, 3) := by decide +kernel
theorem dX5_glow_17 : decode cX5_glow 17 = .ok (.idiv, 1) := by decide +kernel
theorem dX5_glow_18 : decode cX5_glow 18 = .ok (.ireturn, 1) := by decide +kernel
theorem dX5_most_0 : decode cX5_most 0 = .ok (.iconst 3, 1) := by decide +kernel
theorem dX5_most_1 : decode cX5_most 1 = .ok (.aload_n 0, 1) := by decide +kernel
theorem dX5_most_2 : decode cX5_most 2 = .ok (.getfield 17, 3) := by decide +kernel
theorem dX5_most_5 : decode cX5_most 5 = .ok (.iload_n 1, 1) := by decide +kernel
theorem dX5_most_6 : decode cX5_most 6 = .ok (.iaload, 1) := by decide +kernel
theorem dX5_most_7 : decode cX5_most 7 = .ok (.imul, 1) := by decide +kernel
theorem dX5_most_8 : decode cX5_most 8 = .ok (.bipush 30, 2) := by decide +kernel
theorem dX5_most_10 : decode cX5_most 10 = .ok (.iadd, 1) := by decide +kernel
theorem dX5_most_11 : decode cX5_most 11 = .ok (.ireturn, 1) := by decide +kernel
theorem dX5_done_0 : decode cX5_done 0 = .ok (.iconst 0, 1) := by decide +kernel
theorem dX5_done_1 : decode cX5_done 1 = .ok (.istore_n 2, 1) := by decide +kernel
theorem dX5_done_2 : decode cX5_done 2 = .ok (.iload_n 2, 1) := by decide +kernel
theorem dX5_done_3 : decode cX5_done 3 = .ok (.iconst 4, 1) := by decide +kernel
theorem dX5_done_4 : decode cX5_done 4 = .ok (.if_icmp .ge 46, 3) := by decide +kernel
theorem dX5_done_7 : decode cX5_done 7 = .ok (.aload_n 0, 1) := by decide +kernel
theorem dX5_done_8 : decode cX5_done 8 = .ok (.iload_n 1, 1) := by decide +kernel
theorem dX5_done_9 : decode cX5_done 9 = .ok (.iconst 4, 1) := by decide +kernel
theorem dX5_done_10 : decode cX5_done 10 = .ok (.iload_n 2, 1) := by decide +kernel
theorem dX5_done_11 : decode cX5_done 11 = .ok (.iadd, 1) := by decide +kernel
theorem dX5_done_12 : decode cX5_done 12 = .ok (.invokevirtual 61, 3) := by decide +kernel
theorem dX5_done_15 : decode cX5_done 15 = .ok (.iconst 3, 1) := by decide +kernel
theorem dX5_done_16 : decode cX5_done 16 = .ok (.aload_n 0, 1) := by decide +kernel
theorem dX5_done_17 : decode cX5_done 17 = .ok (.getfield 17, 3) := by decide +kernel
theorem dX5_done_20 : decode cX5_done 20 = .ok (.iload_n 1, 1) := by decide +kernel
theorem dX5_done_21 : decode cX5_done 21 = .ok (.iaload, 1) := by decide +kernel
theorem dX5_done_22 : decode cX5_done 22 = .ok (.imul, 1) := by decide +kernel
theorem dX5_done_23 : decode cX5_done 23 = .ok (.if_icmp .lt 19, 3) := by decide +kernel
theorem dX5_done_26 : decode cX5_done 26 = .ok (.aload_n 0, 1) := by decide +kernel
theorem dX5_done_27 : decode cX5_done 27 = .ok (.iload_n 1, 1) := by decide +kernel
theorem dX5_done_28 : decode cX5_done 28 = .ok (.iconst 4, 1) := by decide +kernel
theorem dX5_done_29 : decode cX5_done 29 = .ok (.iload_n 2, 1) := by decide +kernel
theorem dX5_done_30 : decode cX5_done 30 = .ok (.iadd, 1) := by decide +kernel
theorem dX5_done_31 : decode cX5_done 31 = .ok (.invokevirtual 61, 3) := by decide +kernel
theorem dX5_done_34 : decode cX5_done 34 = .ok (.aload_n 0, 1) := by decide +kernel
theorem dX5_done_35 : decode cX5_done 35 = .ok (.iload_n 1, 1) := by decide +kernel
theorem dX5_done_36 : decode cX5_done 36 = .ok (.invokevirtual 64, 3) := by decide +kernel
theorem dX5_done_39 : decode cX5_done 39 = .ok (.if_icmp .le 5, 3) := by decide +kernel
theorem dX5_done_42 : decode cX5_done 42 = .ok (.iconst 0, 1) := by decide +kernel
theorem dX5_done_43 : decode cX5_done 43 = .ok (.ireturn, 1) := by decide +kernel
theorem dX5_done_44 : decode cX5_done 44 = .ok (.iinc 2 1, 3) := by decide +kernel
theorem dX5_done_47 : decode cX5_done 47 = .ok (.goto (-45), 3) := by decide +kernel
theorem dX5_done_50 : decode cX5_done 50 = .ok (.iconst 1, 1) := by decide +kernel
theorem dX5_done_51 : decode cX5_done 51 = .ok (.ireturn, 1) := by decide +kernel
theorem dX5_burnt_0 : decode cX5_burnt 0 = .ok (.iconst 0, 1) := by decide +kernel
theorem dX5_burnt_1 : decode cX5_burnt 1 = .ok (.istore_n 2, 1) := by decide +kernel
theorem dX5_burnt_2 : decode cX5_burnt 2 = .ok (.iload_n 2, 1) := by decide +kernel
theorem dX5_burnt_3 : decode cX5_burnt 3 = .ok (.iconst 4, 1) := by decide +kernel
theorem dX5_burnt_4 : decode cX5_burnt 4 = .ok (.if_icmp .ge 27, 3) := by decide +kernel
theorem dX5_burnt_7 : decode cX5_burnt 7 = .ok (.aload_n 0, 1) := by decide +kernel
theorem dX5_burnt_8 : decode cX5_burnt 8 = .ok (.iload_n 1, 1) := by decide +kernel
theorem dX5_burnt_9 : decode cX5_burnt 9 = .ok (.iconst 4, 1) := by decide +kernel
theorem dX5_burnt_10 : decode cX5_burnt 10 = .ok (.iload_n 2, 1) := by decide +kernel
theorem dX5_burnt_11 : decode cX5_burnt 11 = .ok (.iadd, 1) := by decide +kernel
theorem dX5_burnt_12 : decode cX5_burnt 12 = .ok (.invokevirtual 61, 3) := by decide +kernel
theorem dX5_burnt_15 : decode cX5_burnt 15 = .ok (.aload_n 0, 1) := by decide +kernel
theorem dX5_burnt_16 : decode cX5_burnt 16 = .ok (.iload_n 1, 1) := by decide +kernel
theorem dX5_burnt_17 : decode cX5_burnt 17 = .ok (.invokevirtual 64, 3) := by decide +kernel
theorem dX5_burnt_20 : decode cX5_burnt 20 = .ok (.if_icmp .le 5, 3) := by decide +kernel
theorem dX5_burnt_23 : decode cX5_burnt 23 = .ok (.iconst 1, 1) := by decide +kernel
theorem dX5_burnt_24 : decode cX5_burnt 24 = .ok (.ireturn, 1) := by decide +kernel
theorem dX5_burnt_25 : decode cX5_burnt 25 = .ok (.iinc 2 1, 3) := by decide +kernel
theorem dX5_burnt_28 : decode cX5_burnt 28 = .ok (.goto (-26), 3) := by decide +kernel
theorem dX5_burnt_31 : decode cX5_burnt 31 = .ok (.iconst 0, 1) := by decide +kernel
theorem dX5_burnt_32 : decode cX5_burnt 32 = .ok (.ireturn, 1) := by decide +kernel
theorem dX5_tan_0 : decode cX5_tan 0 = .ok (.iconst 4, 1) := by decide +kernel
theorem dX5_tan_1 : decode cX5_tan 1 = .ok (.iload_n 2, 1) := by decide +kernel
theorem dX5_tan_2 : decode cX5_tan 2 = .ok (.iconst 4, 1) := by decide +kernel
theorem dX5_tan_3 : decode cX5_tan 3 = .ok (.irem, 1) := by decide +kernel
theorem dX5_tan_4 : decode cX5_tan 4 = .ok (.iadd, 1) := by decide +kernel
theorem dX5_tan_5 : decode cX5_tan 5 = .ok (.istore 4, 2) := by decide +kernel
theorem dX5_tan_7 : decode cX5_tan 7 = .ok (.aload_n 0, 1) := by decide +kernel
theorem dX5_tan_8 : decode cX5_tan 8 = .ok (.iload_n 1, 1) := by decide +kernel
theorem dX5_tan_9 : decode cX5_tan 9 = .ok (.iload 4, 2) := by decide +kernel
theorem dX5_tan_11 : decode cX5_tan 11 = .ok (.bipush 99, 2) := by decide +kernel
theorem dX5_tan_13 : decode cX5_tan 13 = .ok (.aload_n 0, 1) := by decide +kernel
theorem dX5_tan_14 : decode cX5_tan 14 = .ok (.iload_n 1, 1) := by decide +kernel
theorem dX5_tan_15 : decode cX5_tan 15 = .ok (.iload 4, 2) := by decide +kernel
theorem dX5_tan_17 : decode cX5_tan 17 = .ok (.invokevirtual 61, 3) := by decide +kernel
theorem dX5_tan_20 : decode cX5_tan 20 = .ok (.iload_n 3, 1) := by decide +kernel
theorem dX5_tan_21 : decode cX5_tan 21 = .ok (.iadd, 1) := by decide +kernel
theorem dX5_tan_22 : decode cX5_tan 22 = .ok (.invokestatic 68, 3) := by decide +kernel
theorem dX5_tan_25 : decode cX5_tan 25 = .ok (.invokevirtual 73, 3) := by decide +kernel
theorem dX5_tan_28 : decode cX5_tan 28 = .ok (.return_, 1) := by decide +kernel
theorem dX5_roasted_0 : decode cX5_roasted 0 = .ok (.aload_n 0, 1) := by decide +kernel
theorem dX5_roasted_1 : decode cX5_roasted 1 = .ok (.iload_n 1, 1) := by decide +kernel
theorem dX5_roasted_2 : decode cX5_roasted 2 = .ok (.iconst 3, 1) := by decide +kernel
theorem dX5_roasted_3 : decode cX5_roasted 3 = .ok (.invokevirtual 61, 3) := by decide +kernel
theorem dX5_roasted_6 : decode cX5_roasted 6 = .ok (.ifCond .le 7, 3) := by decide +kernel
theorem dX5_roasted_9 : decode cX5_roasted 9 = .ok (.iconst 1, 1) := by decide +kernel
theorem dX5_roasted_10 : decode cX5_roasted 10 = .ok (.goto 4, 3) := by decide +kernel
theorem dX5_roasted_13 : decode cX5_roasted 13 = .ok (.iconst 0, 1) := by decide +kernel
theorem dX5_roasted_14 : decode cX5_roasted 14 = .ok (.istore_n 3, 1) := by decide +kernel
theorem dX5_roasted_15 : decode cX5_roasted 15 = .ok (.aload_n 0, 1) := by decide +kernel
theorem dX5_roasted_16 : decode cX5_roasted 16 = .ok (.getfield 20, 3) := by decide +kernel
theorem dX5_roasted_19 : decode cX5_roasted 19 = .ok (.iload_n 1, 1) := by decide +kernel
theorem dX5_roasted_20 : decode cX5_roasted 20 = .ok (.iconst 0, 1) := by decide +kernel
theorem dX5_roasted_21 : decode cX5_roasted 21 = .ok (.aload_n 0, 1) := by decide +kernel
theorem dX5_roasted_22 : decode cX5_roasted 22 = .ok (.iload_n 2, 1) := by decide +kernel
theorem dX5_roasted_23 : decode cX5_roasted 23 = .ok (.invokevirtual 77, 3) := by decide +kernel
theorem dX5_roasted_26 : decode cX5_roasted 26 = .ok (.iload_n 3, 1) := by decide +kernel
theorem dX5_roasted_27 : decode cX5_roasted 27 = .ok (.ifCond .eq 7, 3) := by decide +kernel
theorem dX5_roasted_30 : decode cX5_roasted 30 = .ok (.iconst 1, 1) := by decide +kernel
theorem dX5_roasted_31 : decode cX5_roasted 31 = .ok (.goto 4, 3) := by decide +kernel
theorem dX5_roasted_34 : decode cX5_roasted 34 = .ok (.iconst 0, 1) := by decide +kernel
theorem dX5_roasted_35 : decode cX5_roasted 35 = .ok (.isub, 1) := by decide +kernel
theorem dX5_roasted_36 : decode cX5_roasted 36 = .ok (.invokestatic 80, 3) := by decide +kernel
theorem dX5_roasted_39 : decode cX5_roasted 39 = .ok (.iastore, 1) := by decide +kernel
theorem dX5_roasted_40 : decode cX5_roasted 40 = .ok (.iload_n 3, 1) := by decide +kernel
theorem dX5_roasted_41 : decode cX5_roasted 41 = .ok (.ifCond .eq 17, 3) := by decide +kernel
theorem dX5_roasted_44 : decode cX5_roasted 44 = .ok (.aload_n 0, 1) := by decide +kernel
theorem dX5_roasted_45 : decode cX5_roasted 45 = .ok (.iload_n 1, 1) := by decide +kernel
theorem dX5_roasted_46 : decode cX5_roasted 46 = .ok (.iconst 3, 1) := by decide +kernel
theorem dX5_roasted_47 : decode cX5_roasted 47 = .ok (.aload_n 0, 1) := by decide +kernel
theorem dX5_roasted_48 : decode cX5_roasted 48 = .ok (.iload_n 1, 1) := by decide +kernel
theorem dX5_roasted_49 : decode cX5_roasted 49 = .ok (.iconst 3, 1) := by decide +kernel
theorem dX5_roasted_50 : decode cX5_roasted 50 = .ok (.invokevirtual 61, 3) := by decide +kernel
theorem dX5_roasted_53 : decode cX5_roasted 53 = .ok (.iconst 1, 1) := by decide +kernel
theorem dX5_roasted_54 : decode cX5_roasted 54 = .ok (.isub, 1) := by decide +kernel
theorem dX5_roasted_55 : decode cX5_roasted 55 = .ok (.invokevirtual 73, 3) := by decide +kernel
theorem dX5_roasted_58 : decode cX5_roasted 58 = .ok (.aload_n 0, 1) := by decide +kernel
theorem dX5_roasted_59 : decode cX5_roasted 59 = .ok (.iload_n 1, 1) := by decide +kernel
theorem dX5_roasted_60 : decode cX5_roasted 60 = .ok (.iconst 1, 1) := by decide +kernel
theorem dX5_roasted_61 : decode cX5_roasted 61 = .ok (.invokevirtual 61, 3) := by decide +kernel
theorem dX5_roasted_64 : decode cX5_roasted 64 = .ok (.istore 4, 2) := by decide +kernel
theorem dX5_roasted_66 : decode cX5_roasted 66 = .ok (.aload_n 0, 1) := by decide +kernel
theorem dX5_roasted_67 : decode cX5_roasted 67 = .ok (.iload_n 1, 1) := by decide +kernel
theorem dX5_roasted_68 : decode cX5_roasted 68 = .ok (.iload 4, 2) := by decide +kernel
theorem dX5_roasted_70 : decode cX5_roasted 70 = .ok (.aload_n 0, 1) := by decide +kernel
theorem dX5_roasted_71 : decode cX5_roasted 71 = .ok (.getfield 20, 3) := by decide +kernel
theorem dX5_roasted_74 : decode cX5_roasted 74 = .ok (.iload_n 1, 1) := by decide +kernel
theorem dX5_roasted_75 : decode cX5_roasted 75 = .ok (.iaload, 1) := by decide +kernel
theorem dX5_roasted_76 : decode cX5_roasted 76 = .ok (.invokevirtual 83, 3) := by decide +kernel
theorem dX5_roasted_79 : decode cX5_roasted 79 = .ok (.aload_n 0, 1) := by decide +kernel
theorem dX5_roasted_80 : decode cX5_roasted 80 = .ok (.iload_n 1, 1) := by decide +kernel
theorem dX5_roasted_81 : decode cX5_roasted 81 = .ok (.iload 4, 2) := by decide +kernel
theorem dX5_roasted_83 : decode cX5_roasted 83 = .ok (.iconst 1, 1) := by decide +kernel
theorem dX5_roasted_84 : decode cX5_roasted 84 = .ok (.iadd, 1) := by decide +kernel
theorem dX5_roasted_85 : decode cX5_roasted 85 = .ok (.aload_n 0, 1) := by decide +kernel
theorem dX5_roasted_86 : decode cX5_roasted 86 = .ok (.getfield 20, 3) := by decide +kernel
theorem dX5_roasted_89 : decode cX5_roasted 89 = .ok (.iload_n 1, 1) := by decide +kernel
theorem dX5_roasted_90 : decode cX5_roasted 90 = .ok (.iaload, 1) := by decide +kernel
theorem dX5_roasted_91 : decode cX5_roasted 91 = .ok (.iconst 3, 1) := by decide +kernel
theorem dX5_roasted_92 : decode cX5_roasted 92 = .ok (.idiv, 1) := by decide +kernel
theorem dX5_roasted_93 : decode cX5_roasted 93 = .ok (.invokevirtual 83, 3) := by decide +kernel
theorem dX5_roasted_96 : decode cX5_roasted 96 = .ok (.aload_n 0, 1) := by decide +kernel
theorem dX5_roasted_97 : decode cX5_roasted 97 = .ok (.iload_n 1, 1) := by decide +kernel
theorem dX5_roasted_98 : decode cX5_roasted 98 = .ok (.iload 4, 2) := by decide +kernel
theorem dX5_roasted_100 : decode cX5_roasted 100 = .ok (.iconst 3, 1) := by decide +kernel
theorem dX5_roasted_101 : decode cX5_roasted 101 = .ok (.iadd, 1) := by decide +kernel
theorem dX5_roasted_102 : decode cX5_roasted 102 = .ok (.aload_n 0, 1) := by decide +kernel
theorem dX5_roasted_103 : decode cX5_roasted 103 = .ok (.getfield 20, 3) := by decide +kernel
theorem dX5_roasted_106 : decode cX5_roasted 106 = .ok (.iload_n 1, 1) := by decide +kernel
theorem dX5_roasted_107 : decode cX5_roasted 107 = .ok (.iaload, 1) := by decide +kernel
theorem dX5_roasted_108 : decode cX5_roasted 108 = .ok (.iconst 3, 1) := by decide +kernel
theorem dX5_roasted_109 : decode cX5_roasted 109 = .ok (.idiv, 1) := by decide +kernel
theorem dX5_roasted_110 : decode cX5_roasted 110 = .ok (.invokevirtual 83, 3) := by decide +kernel
theorem dX5_roasted_113 : decode cX5_roasted 113 = .ok (.return_, 1) := by decide +kernel
theorem dX5_drip_0 : decode cX5_drip 0 = .ok (.aload_n 0, 1) := by decide +kernel
theorem dX5_drip_1 : decode cX5_drip 1 = .ok (.getfield 20, 3) := by decide +kernel
theorem dX5_drip_4 : decode cX5_drip 4 = .ok (.iload_n 1, 1) := by decide +kernel
theorem dX5_drip_5 : decode cX5_drip 5 = .ok (.iaload, 1) := by decide +kernel
theorem dX5_drip_6 : decode cX5_drip 6 = .ok (.iconst 2, 1) := by decide +kernel
theorem dX5_drip_7 : decode cX5_drip 7 = .ok (.if_icmp .lt 12, 3) := by decide +kernel
theorem dX5_drip_10 : decode cX5_drip 10 = .ok (.aload_n 0, 1) := by decide +kernel
theorem dX5_drip_11 : decode cX5_drip 11 = .ok (.iload_n 1, 1) := by decide +kernel
theorem dX5_drip_12 : decode cX5_drip 12 = .ok (.iconst 2, 1) := by decide +kernel
theorem dX5_drip_13 : decode cX5_drip 13 = .ok (.invokevirtual 61, 3) := by decide +kernel
theorem dX5_drip_16 : decode cX5_drip 16 = .ok (.ifCond .ne 4, 3) := by decide +kernel
theorem dX5_drip_19 : decode cX5_drip 19 = .ok (.return_, 1) := by decide +kernel
theorem dX5_drip_20 : decode cX5_drip 20 = .ok (.aload_n 0, 1) := by decide +kernel
theorem dX5_drip_21 : decode cX5_drip 21 = .ok (.iload_n 1, 1) := by decide +kernel
theorem dX5_drip_22 : decode cX5_drip 22 = .ok (.iconst 2, 1) := by decide +kernel
theorem dX5_drip_23 : decode cX5_drip 23 = .ok (.aload_n 0, 1) := by decide +kernel
theorem dX5_drip_24 : decode cX5_drip 24 = .ok (.iload_n 1, 1) := by decide +kernel
theorem dX5_drip_25 : decode cX5_drip 25 = .ok (.iconst 2, 1) := by decide +kernel
theorem dX5_drip_26 : decode cX5_drip 26 = .ok (.invokevirtual 61, 3) := by decide +kernel
theorem dX5_drip_29 : decode cX5_drip 29 = .ok (.iconst 1, 1) := by decide +kernel
theorem dX5_drip_30 : decode cX5_drip 30 = .ok (.isub, 1) := by decide +kernel
theorem dX5_drip_31 : decode cX5_drip 31 = .ok (.invokevirtual 73, 3) := by decide +kernel
theorem dX5_drip_34 : decode cX5_drip 34 = .ok (.aload_n 0, 1) := by decide +kernel
theorem dX5_drip_35 : decode cX5_drip 35 = .ok (.iload_n 2, 1) := by decide +kernel
theorem dX5_drip_36 : decode cX5_drip 36 = .ok (.iconst 1, 1) := by decide +kernel
theorem dX5_drip_37 : decode cX5_drip 37 = .ok (.invokevirtual 58, 3) := by decide +kernel
theorem dX5_drip_40 : decode cX5_drip 40 = .ok (.bipush 20, 2) := by decide +kernel
theorem dX5_drip_42 : decode cX5_drip 42 = .ok (.if_icmp .ge 20, 3) := by decide +kernel
theorem dX5_drip_45 : decode cX5_drip 45 = .ok (.aload_n 0, 1) := by decide +kernel
theorem dX5_drip_46 : decode cX5_drip 46 = .ok (.iload_n 2, 1) := by decide +kernel
theorem dX5_drip_47 : decode cX5_drip 47 = .ok (.iconst 1, 1) := by decide +kernel
theorem dX5_drip_48 : decode cX5_drip 48 = .ok (.aload_n 0, 1) := by decide +kernel
theorem dX5_drip_49 : decode cX5_drip 49 = .ok (.iload_n 2, 1) := by decide +kernel
theorem dX5_drip_50 : decode cX5_drip 50 = .ok (.iconst 1, 1) := by decide +kernel
theorem dX5_drip_51 : decode cX5_drip 51 = .ok (.invokevirtual 58, 3) := by decide +kernel
theorem dX5_drip_54 : decode cX5_drip 54 = .ok (.iconst 1, 1) := by decide +kernel
theorem dX5_drip_55 : decode cX5_drip 55 = .ok (.iadd, 1) := by decide +kernel
theorem dX5_drip_56 : decode cX5_drip 56 = .ok (.invokevirtual 86, 3) := by decide +kernel
theorem dX5_drip_59 : decode cX5_drip 59 = .ok (.goto 18, 3) := by decide +kernel
theorem dX5_drip_62 : decode cX5_drip 62 = .ok (.aload_n 0, 1) := by decide +kernel
theorem dX5_drip_63 : decode cX5_drip 63 = .ok (.getfield 23, 3) := by decide +kernel
theorem dX5_drip_66 : decode cX5_drip 66 = .ok (.aload_n 0, 1) := by decide +kernel
theorem dX5_drip_67 : decode cX5_drip 67 = .ok (.getfield 13, 3) := by decide +kernel
theorem dX5_drip_70 : decode cX5_drip 70 = .ok (.iload_n 2, 1) := by decide +kernel
theorem dX5_drip_71 : decode cX5_drip 71 = .ok (.iaload, 1) := by decide +kernel
theorem dX5_drip_72 : decode cX5_drip 72 = .ok (.dup2, 1) := by decide +kernel
theorem dX5_drip_73 : decode cX5_drip 73 = .ok (.iaload, 1) := by decide +kernel
theorem dX5_drip_74 : decode cX5_drip 74 = .ok (.iconst 1, 1) := by decide +kernel
theorem dX5_drip_75 : decode cX5_drip 75 = .ok (.iadd, 1) := by decide +kernel
theorem dX5_drip_76 : decode cX5_drip 76 = .ok (.iastore, 1) := by decide +kernel
theorem dX5_drip_77 : decode cX5_drip 77 = .ok (.return_, 1) := by decide +kernel
theorem dX5_turn_0 : decode cX5_turn 0 = .ok (.aload_n 0, 1) := by decide +kernel
theorem dX5_turn_1 : decode cX5_turn 1 = .ok (.iload_n 1, 1) := by decide +kernel
theorem dX5_turn_2 : decode cX5_turn 2 = .ok (.iconst 1, 1) := by decide +kernel
theorem dX5_turn_3 : decode cX5_turn 3 = .ok (.aload_n 0, 1) := by decide +kernel
theorem dX5_turn_4 : decode cX5_turn 4 = .ok (.iload_n 1, 1) := by decide +kernel
theorem dX5_turn_5 : decode cX5_turn 5 = .ok (.iconst 1, 1) := by decide +kernel
theorem dX5_turn_6 : decode cX5_turn 6 = .ok (.invokevirtual 61, 3) := by decide +kernel
theorem dX5_turn_9 : decode cX5_turn 9 = .ok (.iconst 1, 1) := by decide +kernel
theorem dX5_turn_10 : decode cX5_turn 10 = .ok (.iadd, 1) := by decide +kernel
theorem dX5_turn_11 : decode cX5_turn 11 = .ok (.iconst 4, 1) := by decide +kernel
theorem dX5_turn_12 : decode cX5_turn 12 = .ok (.irem, 1) := by decide +kernel
theorem dX5_turn_13 : decode cX5_turn 13 = .ok (.invokevirtual 73, 3) := by decide +kernel
theorem dX5_turn_16 : decode cX5_turn 16 = .ok (.return_, 1) := by decide +kernel
theorem dX5_minuteOn_0 : decode cX5_minuteOn 0 = .ok (.iconst 0, 1) := by decide +kernel
theorem dX5_minuteOn_1 : decode cX5_minuteOn 1 = .ok (.istore_n 1, 1) := by decide +kernel
theorem dX5_minuteOn_2 : decode cX5_minuteOn 2 = .ok (.iconst 0, 1) := by decide +kernel
theorem dX5_minuteOn_3 : decode cX5_minuteOn 3 = .ok (.istore_n 2, 1) := by decide +kernel
theorem dX5_minuteOn_4 : decode cX5_minuteOn 4 = .ok (.iload_n 2, 1) := by decide +kernel
theorem dX5_minuteOn_5 : decode cX5_minuteOn 5 = .ok (.aload_n 0, 1) := by decide +kernel
theorem dX5_minuteOn_6 : decode cX5_minuteOn 6 = .ok (.getfield 35, 3) := by decide +kernel
theorem dX5_minuteOn_9 : decode cX5_minuteOn 9 = .ok (.if_icmp .ge 16, 3) := by decide +kernel
theorem dX5_minuteOn_12 : decode cX5_minuteOn 12 = .ok (.aload_n 0, 1) := by decide +kernel
theorem dX5_minuteOn_13 : decode cX5_minuteOn 13 = .ok (.getfield 23, 3) := by decide +kernel
theorem dX5_minuteOn_16 : decode cX5_minuteOn 16 = .ok (.iload_n 2, 1) := by decide +kernel
theorem dX5_minuteOn_17 : decode cX5_minuteOn 17 = .ok (.iconst 0, 1) := by decide +kernel
theorem dX5_minuteOn_18 : decode cX5_minuteOn 18 = .ok (.iastore, 1) := by decide +kernel
theorem dX5_minuteOn_19 : decode cX5_minuteOn 19 = .ok (.iinc 2 1, 3) := by decide +kernel
theorem dX5_minuteOn_22 : decode cX5_minuteOn 22 = .ok (.goto (-18), 3) := by decide +kernel
theorem dX5_minuteOn_25 : decode cX5_minuteOn 25 = .ok (.iconst 0, 1) := by decide +kernel
theorem dX5_minuteOn_26 : decode cX5_minuteOn 26 = .ok (.istore_n 2, 1) := by decide +kernel
theorem dX5_minuteOn_27 : decode cX5_minuteOn 27 = .ok (.iload_n 2, 1) := by decide +kernel
theorem dX5_minuteOn_28 : decode cX5_minuteOn 28 = .ok (.aload_n 0, 1) := by decide +kernel
theorem dX5_minuteOn_29 : decode cX5_minuteOn 29 = .ok (.getfield 42, 3) := by decide +kernel
theorem dX5_minuteOn_32 : decode cX5_minuteOn 32 = .ok (.if_icmp .ge 81, 3) := by decide +kernel
theorem dX5_minuteOn_35 : decode cX5_minuteOn 35 = .ok (.aload_n 0, 1) := by decide +kernel
theorem dX5_minuteOn_36 : decode cX5_minuteOn 36 = .ok (.iload_n 2, 1) := by decide +kernel
theorem dX5_minuteOn_37 : decode cX5_minuteOn 37 = .ok (.iconst 2, 1) := by decide +kernel
theorem dX5_minuteOn_38 : decode cX5_minuteOn 38 = .ok (.invokevirtual 58, 3) := by decide +kernel
theorem dX5_minuteOn_41 : decode cX5_minuteOn 41 = .ok (.iconst 1, 1) := by decide +kernel
theorem dX5_minuteOn_42 : decode cX5_minuteOn 42 = .ok (.isub, 1) := by decide +kernel
theorem dX5_minuteOn_43 : decode cX5_minuteOn 43 = .ok (.istore_n 3, 1) := by decide +kernel
theorem dX5_minuteOn_44 : decode cX5_minuteOn 44 = .ok (.iload_n 3, 1) := by decide +kernel
theorem dX5_minuteOn_45 : decode cX5_minuteOn 45 = .ok (.ifCond .ge 6, 3) := by decide +kernel
theorem dX5_minuteOn_48 : decode cX5_minuteOn 48 = .ok (.goto 59, 3) := by decide +kernel
theorem dX5_minuteOn_51 : decode cX5_minuteOn 51 = .ok (.aload_n 0, 1) := by decide +kernel
theorem dX5_minuteOn_52 : decode cX5_minuteOn 52 = .ok (.iload_n 3, 1) := by decide +kernel
theorem dX5_minuteOn_53 : decode cX5_minuteOn 53 = .ok (.iload_n 2, 1) := by decide +kernel
theorem dX5_minuteOn_54 : decode cX5_minuteOn 54 = .ok (.invokevirtual 89, 3) := by decide +kernel
theorem dX5_minuteOn_57 : decode cX5_minuteOn 57 = .ok (.aload_n 0, 1) := by decide +kernel
theorem dX5_minuteOn_58 : decode cX5_minuteOn 58 = .ok (.iload_n 3, 1) := by decide +kernel
theorem dX5_minuteOn_59 : decode cX5_minuteOn 59 = .ok (.iload_n 2, 1) := by decide +kernel
theorem dX5_minuteOn_60 : decode cX5_minuteOn 60 = .ok (.invokevirtual 93, 3) := by decide +kernel
theorem dX5_minuteOn_63 : decode cX5_minuteOn 63 = .ok (.aload_n 0, 1) := by decide +kernel
theorem dX5_minuteOn_64 : decode cX5_minuteOn 64 = .ok (.iload_n 2, 1) := by decide +kernel
theorem dX5_minuteOn_65 : decode cX5_minuteOn 65 = .ok (.iconst 3, 1) := by decide +kernel
theorem dX5_minuteOn_66 : decode cX5_minuteOn 66 = .ok (.aload_n 0, 1) := by decide +kernel
theorem dX5_minuteOn_67 : decode cX5_minuteOn 67 = .ok (.iload_n 2, 1) := by decide +kernel
theorem dX5_minuteOn_68 : decode cX5_minuteOn 68 = .ok (.iconst 3, 1) := by decide +kernel
theorem dX5_minuteOn_69 : decode cX5_minuteOn 69 = .ok (.invokevirtual 58, 3) := by decide +kernel
theorem dX5_minuteOn_72 : decode cX5_minuteOn 72 = .ok (.iconst 1, 1) := by decide +kernel
theorem dX5_minuteOn_73 : decode cX5_minuteOn 73 = .ok (.iadd, 1) := by decide +kernel
theorem dX5_minuteOn_74 : decode cX5_minuteOn 74 = .ok (.invokevirtual 86, 3) := by decide +kernel
theorem dX5_minuteOn_77 : decode cX5_minuteOn 77 = .ok (.aload_n 0, 1) := by decide +kernel
theorem dX5_minuteOn_78 : decode cX5_minuteOn 78 = .ok (.iload_n 2, 1) := by decide +kernel
theorem dX5_minuteOn_79 : decode cX5_minuteOn 79 = .ok (.iconst 4, 1) := by decide +kernel
theorem dX5_minuteOn_80 : decode cX5_minuteOn 80 = .ok (.invokevirtual 58, 3) := by decide +kernel
theorem dX5_minuteOn_83 : decode cX5_minuteOn 83 = .ok (.ifCond .le 24, 3) := by decide +kernel
theorem dX5_minuteOn_86 : decode cX5_minuteOn 86 = .ok (.aload_n 0, 1) := by decide +kernel
theorem dX5_minuteOn_87 : decode cX5_minuteOn 87 = .ok (.iload_n 2, 1) := by decide +kernel
theorem dX5_minuteOn_88 : decode cX5_minuteOn 88 = .ok (.iconst 3, 1) := by decide +kernel
theorem dX5_minuteOn_89 : decode cX5_minuteOn 89 = .ok (.invokevirtual 58, 3) := by decide +kernel
theorem dX5_minuteOn_92 : decode cX5_minuteOn 92 = .ok (.aload_n 0, 1) := by decide +kernel
theorem dX5_minuteOn_93 : decode cX5_minuteOn 93 = .ok (.iload_n 2, 1) := by decide +kernel
theorem dX5_minuteOn_94 : decode cX5_minuteOn 94 = .ok (.iconst 4, 1) := by decide +kernel
theorem dX5_minuteOn_95 : decode cX5_minuteOn 95 = .ok (.invokevirtual 58, 3) := by decide +kernel
theorem dX5_minuteOn_98 : decode cX5_minuteOn 98 = .ok (.irem, 1) := by decide +kernel
theorem dX5_minuteOn_99 : decode cX5_minuteOn 99 = .ok (.ifCond .ne 8, 3) := by decide +kernel
theorem dX5_minuteOn_102 : decode cX5_minuteOn 102 = .ok (.aload_n 0, 1) := by decide +kernel
theorem dX5_minuteOn_103 : decode cX5_minuteOn 103 = .ok (.iload_n 3, 1) := by decide +kernel
theorem dX5_minuteOn_104 : decode cX5_minuteOn 104 = .ok (.invokevirtual 96, 3) := by decide +kernel
theorem dX5_minuteOn_107 : decode cX5_minuteOn 107 = .ok (.iinc 2 1, 3) := by decide +kernel
theorem dX5_minuteOn_110 : decode cX5_minuteOn 110 = .ok (.goto (-83), 3) := by decide +kernel
theorem dX5_minuteOn_113 : decode cX5_minuteOn 113 = .ok (.iconst 0, 1) := by decide +kernel
theorem dX5_minuteOn_114 : decode cX5_minuteOn 114 = .ok (.istore_n 2, 1) := by decide +kernel
theorem dX5_minuteOn_115 : decode cX5_minuteOn 115 = .ok (.iload_n 2, 1) := by decide +kernel
theorem dX5_minuteOn_116 : decode cX5_minuteOn 116 = .ok (.aload_n 0, 1) := by decide +kernel
theorem dX5_minuteOn_117 : decode cX5_minuteOn 117 = .ok (.getfield 35, 3) := by decide +kernel
theorem dX5_minuteOn_120 : decode cX5_minuteOn 120 = .ok (.if_icmp .ge 100, 3) := by decide +kernel
theorem dX5_minuteOn_123 : decode cX5_minuteOn 123 = .ok (.aload_n 0, 1) := by decide +kernel
theorem dX5_minuteOn_124 : decode cX5_minuteOn 124 = .ok (.iload_n 2, 1) := by decide +kernel
theorem dX5_minuteOn_125 : decode cX5_minuteOn 125 = .ok (.iconst 0, 1) := by decide +kernel
theorem dX5_minuteOn_126 : decode cX5_minuteOn 126 = .ok (.invokevirtual 54, 3) := by decide +kernel
theorem dX5_minuteOn_129 : decode cX5_minuteOn 129 = .ok (.ifCond .le 7, 3) := by decide +kernel
theorem dX5_minuteOn_132 : decode cX5_minuteOn 132 = .ok (.iconst 1, 1) := by decide +kernel
theorem dX5_minuteOn_133 : decode cX5_minuteOn 133 = .ok (.goto 4, 3) := by decide +kernel
theorem dX5_minuteOn_136 : decode cX5_minuteOn 136 = .ok (.iconst 0, 1) := by decide +kernel
theorem dX5_minuteOn_137 : decode cX5_minuteOn 137 = .ok (.istore_n 3, 1) := by decide +kernel
theorem dX5_minuteOn_138 : decode cX5_minuteOn 138 = .ok (.iload_n 3, 1) := by decide +kernel
theorem dX5_minuteOn_139 : decode cX5_minuteOn 139 = .ok (.ifCond .eq 28, 3) := by decide +kernel
theorem dX5_minuteOn_142 : decode cX5_minuteOn 142 = .ok (.aload_n 0, 1) := by decide +kernel
theorem dX5_minuteOn_143 : decode cX5_minuteOn 143 = .ok (.getfield 26, 3) := by decide +kernel
theorem dX5_minuteOn_146 : decode cX5_minuteOn 146 = .ok (.iconst 0, 1) := by decide +kernel
theorem dX5_minuteOn_147 : decode cX5_minuteOn 147 = .ok (.iaload, 1) := by decide +kernel
theorem dX5_minuteOn_148 : decode cX5_minuteOn 148 = .ok (.iconst 5, 1) := by decide +kernel
theorem dX5_minuteOn_149 : decode cX5_minuteOn 149 = .ok (.irem, 1) := by decide +kernel
theorem dX5_minuteOn_150 : decode cX5_minuteOn 150 = .ok (.ifCond .ne 17, 3) := by decide +kernel
theorem dX5_minuteOn_153 : decode cX5_minuteOn 153 = .ok (.aload_n 0, 1) := by decide +kernel
theorem dX5_minuteOn_154 : decode cX5_minuteOn 154 = .ok (.iload_n 2, 1) := by decide +kernel
theorem dX5_minuteOn_155 : decode cX5_minuteOn 155 = .ok (.iconst 0, 1) := by decide +kernel
theorem dX5_minuteOn_156 : decode cX5_minuteOn 156 = .ok (.aload_n 0, 1) := by decide +kernel
theorem dX5_minuteOn_157 : decode cX5_minuteOn 157 = .ok (.iload_n 2, 1) := by decide +kernel
theorem dX5_minuteOn_158 : decode cX5_minuteOn 158 = .ok (.iconst 0, 1) := by decide +kernel
theorem dX5_minuteOn_159 : decode cX5_minuteOn 159 = .ok (.invokevirtual 54, 3) := by decide +kernel
theorem dX5_minuteOn_162 : decode cX5_minuteOn 162 = .ok (.iconst 1, 1) := by decide +kernel
theorem dX5_minuteOn_163 : decode cX5_minuteOn 163 = .ok (.isub, 1) := by decide +kernel
theorem dX5_minuteOn_164 : decode cX5_minuteOn 164 = .ok (.invokevirtual 100, 3) := by decide +kernel
theorem dX5_minuteOn_167 : decode cX5_minuteOn 167 = .ok (.aload_n 0, 1) := by decide +kernel
theorem dX5_minuteOn_168 : decode cX5_minuteOn 168 = .ok (.iload_n 2, 1) := by decide +kernel
theorem dX5_minuteOn_169 : decode cX5_minuteOn 169 = .ok (.iconst 1, 1) := by decide +kernel
theorem dX5_minuteOn_170 : decode cX5_minuteOn 170 = .ok (.iconst 0, 1) := by decide +kernel
theorem dX5_minuteOn_171 : decode cX5_minuteOn 171 = .ok (.bipush 9, 2) := by decide +kernel
theorem dX5_minuteOn_173 : decode cX5_minuteOn 173 = .ok (.aload_n 0, 1) := by decide +kernel
theorem dX5_minuteOn_174 : decode cX5_minuteOn 174 = .ok (.iload_n 2, 1) := by decide +kernel
theorem dX5_minuteOn_175 : decode cX5_minuteOn 175 = .ok (.iconst 1, 1) := by decide +kernel
theorem dX5_minuteOn_176 : decode cX5_minuteOn 176 = .ok (.invokevirtual 54, 3) := by decide +kernel
theorem dX5_minuteOn_179 : decode cX5_minuteOn 179 = .ok (.iload_n 3, 1) := by decide +kernel
theorem dX5_minuteOn_180 : decode cX5_minuteOn 180 = .ok (.ifCond .eq 7, 3) := by decide +kernel
theorem dX5_minuteOn_183 : decode cX5_minuteOn 183 = .ok (.iconst 1, 1) := by decide +kernel
theorem dX5_minuteOn_184 : decode cX5_minuteOn 184 = .ok (.goto 4, 3) := by decide +kernel
theorem dX5_minuteOn_187 : decode cX5_minuteOn 187 = .ok (.iconst (-1), 1) := by decide +kernel
theorem dX5_minuteOn_188 : decode cX5_minuteOn 188 = .ok (.iadd, 1) := by decide +kernel
theorem dX5_minuteOn_189 : decode cX5_minuteOn 189 = .ok (.aload_n 0, 1) := by decide +kernel
theorem dX5_minuteOn_190 : decode cX5_minuteOn 190 = .ok (.getfield 23, 3) := by decide +kernel
theorem dX5_minuteOn_193 : decode cX5_minuteOn 193 = .ok (.iload_n 2, 1) := by decide +kernel
theorem dX5_minuteOn_194 : decode cX5_minuteOn 194 = .ok (.iaload, 1) := by decide +kernel
theorem dX5_minuteOn_195 : decode cX5_minuteOn 195 = .ok (.iadd, 1) := by decide +kernel
theorem dX5_minuteOn_196 : decode cX5_minuteOn 196 = .ok (.invokestatic 68, 3) := by decide +kernel
theorem dX5_minuteOn_199 : decode cX5_minuteOn 199 = .ok (.invokestatic 80, 3) := by decide +kernel
theorem dX5_minuteOn_202 : decode cX5_minuteOn 202 = .ok (.invokevirtual 100, 3) := by decide +kernel
theorem dX5_minuteOn_205 : decode cX5_minuteOn 205 = .ok (.iload_n 1, 1) := by decide +kernel
theorem dX5_minuteOn_206 : decode cX5_minuteOn 206 = .ok (.aload_n 0, 1) := by decide +kernel
theorem dX5_minuteOn_207 : decode cX5_minuteOn 207 = .ok (.getfield 23, 3) := by decide +kernel
theorem dX5_minuteOn_210 : decode cX5_minuteOn 210 = .ok (.iload_n 2, 1) := by decide +kernel
theorem dX5_minuteOn_211 : decode cX5_minuteOn 211 = .ok (.iaload, 1) := by decide +kernel
theorem dX5_minuteOn_212 : decode cX5_minuteOn 212 = .ok (.iadd, 1) := by decide +kernel
theorem dX5_minuteOn_213 : decode cX5_minuteOn 213 = .ok (.istore_n 1, 1) := by decide +kernel
theorem dX5_minuteOn_214 : decode cX5_minuteOn 214 = .ok (.iinc 2 1, 3) := by decide +kernel
theorem dX5_minuteOn_217 : decode cX5_minuteOn 217 = .ok (.goto (-102), 3) := by decide +kernel
theorem dX5_minuteOn_220 : decode cX5_minuteOn 220 = .ok (.aload_n 0, 1) := by decide +kernel
theorem dX5_minuteOn_221 : decode cX5_minuteOn 221 = .ok (.getfield 26, 3) := by decide +kernel
theorem dX5_minuteOn_224 : decode cX5_minuteOn 224 = .ok (.iconst 0, 1) := by decide +kernel
theorem dX5_minuteOn_225 : decode cX5_minuteOn 225 = .ok (.dup2, 1) := by decide +kernel
theorem dX5_minuteOn_226 : decode cX5_minuteOn 226 = .ok (.iaload, 1) := by decide +kernel
theorem dX5_minuteOn_227 : decode cX5_minuteOn 227 = .ok (.iconst 1, 1) := by decide +kernel
theorem dX5_minuteOn_228 : decode cX5_minuteOn 228 = .ok (.iadd, 1) := by decide +kernel
theorem dX5_minuteOn_229 : decode cX5_minuteOn 229 = .ok (.iastore, 1) := by decide +kernel
theorem dX5_minuteOn_230 : decode cX5_minuteOn 230 = .ok (.iload_n 1, 1) := by decide +kernel
theorem dX5_minuteOn_231 : decode cX5_minuteOn 231 = .ok (.ireturn, 1) := by decide +kernel
theorem dX5_addFire_0 : decode cX5_addFire 0 = .ok (.aload_n 0, 1) := by decide +kernel
theorem dX5_addFire_1 : decode cX5_addFire 1 = .ok (.iconst 0, 1) := by decide +kernel
theorem dX5_addFire_2 : decode cX5_addFire 2 = .ok (.putfield 32, 3) := by decide +kernel
theorem dX5_addFire_5 : decode cX5_addFire 5 = .ok (.aload_n 0, 1) := by decide +kernel
theorem dX5_addFire_6 : decode cX5_addFire 6 = .ok (.getfield 35, 3) := by decide +kernel
theorem dX5_addFire_9 : decode cX5_addFire 9 = .ok (.iconst 3, 1) := by decide +kernel
theorem dX5_addFire_10 : decode cX5_addFire 10 = .ok (.if_icmp .ne 9, 3) := by decide +kernel
theorem dX5_addFire_13 : decode cX5_addFire 13 = .ok (.aload_n 0, 1) := by decide +kernel
theorem dX5_addFire_14 : decode cX5_addFire 14 = .ok (.iconst 1, 1) := by decide +kernel
theorem dX5_addFire_15 : decode cX5_addFire 15 = .ok (.invokevirtual 103, 3) := by decide +kernel
theorem dX5_addFire_18 : decode cX5_addFire 18 = .ok (.ireturn, 1) := by decide +kernel
theorem dX5_addFire_19 : decode cX5_addFire 19 = .ok (.aload_n 0, 1) := by decide +kernel
theorem dX5_addFire_20 : decode cX5_addFire 20 = .ok (.dup, 1) := by decide +kernel
theorem dX5_addFire_21 : decode cX5_addFire 21 = .ok (.getfield 35, 3) := by decide +kernel
theorem dX5_addFire_24 : decode cX5_addFire 24 = .ok (.iconst 1, 1) := by decide +kernel
theorem dX5_addFire_25 : decode cX5_addFire 25 = .ok (.iadd, 1) := by decide +kernel
theorem dX5_addFire_26 : decode cX5_addFire 26 = .ok (.putfield 35, 3) := by decide +kernel
theorem dX5_addFire_29 : decode cX5_addFire 29 = .ok (.aload_n 0, 1) := by decide +kernel
theorem dX5_addFire_30 : decode cX5_addFire 30 = .ok (.getfield 35, 3) := by decide +kernel
theorem dX5_addFire_33 : decode cX5_addFire 33 = .ok (.iconst 1, 1) := by decide +kernel
theorem dX5_addFire_34 : decode cX5_addFire 34 = .ok (.isub, 1) := by decide +kernel
theorem dX5_addFire_35 : decode cX5_addFire 35 = .ok (.ireturn, 1) := by decide +kernel
theorem dX5_layLogs_0 : decode cX5_layLogs 0 = .ok (.aload_n 0, 1) := by decide +kernel
theorem dX5_layLogs_1 : decode cX5_layLogs 1 = .ok (.iconst 0, 1) := by decide +kernel
theorem dX5_layLogs_2 : decode cX5_layLogs 2 = .ok (.putfield 32, 3) := by decide +kernel
theorem dX5_layLogs_5 : decode cX5_layLogs 5 = .ok (.aload_n 0, 1) := by decide +kernel
theorem dX5_layLogs_6 : decode cX5_layLogs 6 = .ok (.iload_n 1, 1) := by decide +kernel
theorem dX5_layLogs_7 : decode cX5_layLogs 7 = .ok (.invokevirtual 106, 3) := by decide +kernel
theorem dX5_layLogs_10 : decode cX5_layLogs 10 = .ok (.ifCond .ne 9, 3) := by decide +kernel
theorem dX5_layLogs_13 : decode cX5_layLogs 13 = .ok (.aload_n 0, 1) := by decide +kernel
theorem dX5_layLogs_14 : decode cX5_layLogs 14 = .ok (.iconst 1, 1) := by decide +kernel
theorem dX5_layLogs_15 : decode cX5_layLogs 15 = .ok (.invokevirtual 103, 3) := by decide +kernel
theorem dX5_layLogs_18 : decode cX5_layLogs 18 = .ok (.ireturn, 1) := by decide +kernel
theorem dX5_layLogs_19 : decode cX5_layLogs 19 = .ok (.iload_n 2, 1) := by decide +kernel
theorem dX5_layLogs_20 : decode cX5_layLogs 20 = .ok (.iconst 1, 1) := by decide +kernel
theorem dX5_layLogs_21 : decode cX5_layLogs 21 = .ok (.bipush 40, 2) := by decide +kernel
theorem dX5_layLogs_23 : decode cX5_layLogs 23 = .ok (.invokestatic 38, 3) := by decide +kernel
theorem dX5_layLogs_26 : decode cX5_layLogs 26 = .ok (.ifCond .ne 9, 3) := by decide +kernel
theorem dX5_layLogs_29 : decode cX5_layLogs 29 = .ok (.aload_n 0, 1) := by decide +kernel
theorem dX5_layLogs_30 : decode cX5_layLogs 30 = .ok (.iconst 2, 1) := by decide +kernel
theorem dX5_layLogs_31 : decode cX5_layLogs 31 = .ok (.invokevirtual 103, 3) := by decide +kernel
theorem dX5_layLogs_34 : decode cX5_layLogs 34 = .ok (.ireturn, 1) := by decide +kernel
theorem dX5_layLogs_35 : decode cX5_layLogs 35 = .ok (.aload_n 0, 1) := by decide +kernel
theorem dX5_layLogs_36 : decode cX5_layLogs 36 = .ok (.iload_n 1, 1) := by decide +kernel
theorem dX5_layLogs_37 : decode cX5_layLogs 37 = .ok (.iconst 0, 1) := by decide +kernel
theorem dX5_layLogs_38 : decode cX5_layLogs 38 = .ok (.bipush 40, 2) := by decide +kernel
theorem dX5_layLogs_40 : decode cX5_layLogs 40 = .ok (.aload_n 0, 1) := by decide +kernel
theorem dX5_layLogs_41 : decode cX5_layLogs 41 = .ok (.iload_n 1, 1) := by decide +kernel
theorem dX5_layLogs_42 : decode cX5_layLogs 42 = .ok (.iconst 0, 1) := by decide +kernel
theorem dX5_layLogs_43 : decode cX5_layLogs 43 = .ok (.invokevirtual 54, 3) := by decide +kernel
theorem dX5_layLogs_46 : decode cX5_layLogs 46 = .ok (.iload_n 2, 1) := by decide +kernel
theorem dX5_layLogs_47 : decode cX5_layLogs 47 = .ok (.iadd, 1) := by decide +kernel
theorem dX5_layLogs_48 : decode cX5_layLogs 48 = .ok (.invokestatic 68, 3) := by decide +kernel
theorem dX5_layLogs_51 : decode cX5_layLogs 51 = .ok (.invokevirtual 100, 3) := by decide +kernel
theorem dX5_layLogs_54 : decode cX5_layLogs 54 = .ok (.aload_n 0, 1) := by decide +kernel
theorem dX5_layLogs_55 : decode cX5_layLogs 55 = .ok (.iload_n 1, 1) := by decide +kernel
theorem dX5_layLogs_56 : decode cX5_layLogs 56 = .ok (.iconst 0, 1) := by decide +kernel
theorem dX5_layLogs_57 : decode cX5_layLogs 57 = .ok (.invokevirtual 54, 3) := by decide +kernel
theorem dX5_layLogs_60 : decode cX5_layLogs 60 = .ok (.ireturn, 1) := by decide +kernel
theorem dX5_addSpit_0 : decode cX5_addSpit 0 = .ok (.aload_n 0, 1) := by decide +kernel
theorem dX5_addSpit_1 : decode cX5_addSpit 1 = .ok (.iconst 0, 1) := by decide +kernel
theorem dX5_addSpit_2 : decode cX5_addSpit 2 = .ok (.putfield 32, 3) := by decide +kernel
theorem dX5_addSpit_5 : decode cX5_addSpit 5 = .ok (.aload_n 0, 1) := by decide +kernel
theorem dX5_addSpit_6 : decode cX5_addSpit 6 = .ok (.iload_n 1, 1) := by decide +kernel
theorem dX5_addSpit_7 : decode cX5_addSpit 7 = .ok (.invokevirtual 106, 3) := by decide +kernel
theorem dX5_addSpit_10 : decode cX5_addSpit 10 = .ok (.ifCond .ne 9, 3) := by decide +kernel
theorem dX5_addSpit_13 : decode cX5_addSpit 13 = .ok (.aload_n 0, 1) := by decide +kernel
theorem dX5_addSpit_14 : decode cX5_addSpit 14 = .ok (.iconst 1, 1) := by decide +kernel
theorem dX5_addSpit_15 : decode cX5_addSpit 15 = .ok (.invokevirtual 103, 3) := by decide +kernel
theorem dX5_addSpit_18 : decode cX5_addSpit 18 = .ok (.ireturn, 1) := by decide +kernel
theorem dX5_addSpit_19 : decode cX5_addSpit 19 = .ok (.iload_n 2, 1) := by decide +kernel
theorem dX5_addSpit_20 : decode cX5_addSpit 20 = .ok (.iconst 1, 1) := by decide +kernel
theorem dX5_addSpit_21 : decode cX5_addSpit 21 = .ok (.iconst 3, 1) := by decide +kernel
theorem dX5_addSpit_22 : decode cX5_addSpit 22 = .ok (.invokestatic 38, 3) := by decide +kernel
theorem dX5_addSpit_25 : decode cX5_addSpit 25 = .ok (.ifCond .ne 9, 3) := by decide +kernel
theorem dX5_addSpit_28 : decode cX5_addSpit 28 = .ok (.aload_n 0, 1) := by decide +kernel
theorem dX5_addSpit_29 : decode cX5_addSpit 29 = .ok (.iconst 2, 1) := by decide +kernel
theorem dX5_addSpit_30 : decode cX5_addSpit 30 = .ok (.invokevirtual 103, 3) := by decide +kernel
theorem dX5_addSpit_33 : decode cX5_addSpit 33 = .ok (.ireturn, 1) := by decide +kernel
theorem dX5_addSpit_34 : decode cX5_addSpit 34 = .ok (.aload_n 0, 1) := by decide +kernel
theorem dX5_addSpit_35 : decode cX5_addSpit 35 = .ok (.getfield 42, 3) := by decide +kernel
theorem dX5_addSpit_38 : decode cX5_addSpit 38 = .ok (.bipush 6, 2) := by decide +kernel
theorem dX5_addSpit_40 : decode cX5_addSpit 40 = .ok (.if_icmp .ne 9, 3) := by decide +kernel
theorem dX5_addSpit_43 : decode cX5_addSpit 43 = .ok (.aload_n 0, 1) := by decide +kernel
theorem dX5_addSpit_44 : decode cX5_addSpit 44 = .ok (.iconst 3, 1) := by decide +kernel
theorem dX5_addSpit_45 : decode cX5_addSpit 45 = .ok (.invokevirtual 103, 3) := by decide +kernel
theorem dX5_addSpit_48 : decode cX5_addSpit 48 = .ok (.ireturn, 1) := by decide +kernel
theorem dX5_addSpit_49 : decode cX5_addSpit 49 = .ok (.aload_n 0, 1) := by decide +kernel
theorem dX5_addSpit_50 : decode cX5_addSpit 50 = .ok (.getfield 13, 3) := by decide +kernel
theorem dX5_addSpit_53 : decode cX5_addSpit 53 = .ok (.aload_n 0, 1) := by decide +kernel
theorem dX5_addSpit_54 : decode cX5_addSpit 54 = .ok (.getfield 42, 3) := by decide +kernel
theorem dX5_addSpit_57 : decode cX5_addSpit 57 = .ok (.iload_n 1, 1) := by decide +kernel
theorem dX5_addSpit_58 : decode cX5_addSpit 58 = .ok (.iastore, 1) := by decide +kernel
theorem dX5_addSpit_59 : decode cX5_addSpit 59 = .ok (.aload_n 0, 1) := by decide +kernel
theorem dX5_addSpit_60 : decode cX5_addSpit 60 = .ok (.aload_n 0, 1) := by decide +kernel
theorem dX5_addSpit_61 : decode cX5_addSpit 61 = .ok (.getfield 42, 3) := by decide +kernel
theorem dX5_addSpit_64 : decode cX5_addSpit 64 = .ok (.iconst 0, 1) := by decide +kernel
theorem dX5_addSpit_65 : decode cX5_addSpit 65 = .ok (.iload_n 2, 1) := by decide +kernel
theorem dX5_addSpit_66 : decode cX5_addSpit 66 = .ok (.invokevirtual 86, 3) := by decide +kernel
theorem dX5_addSpit_69 : decode cX5_addSpit 69 = .ok (.aload_n 0, 1) := by decide +kernel
theorem dX5_addSpit_70 : decode cX5_addSpit 70 = .ok (.dup, 1) := by decide +kernel
theorem dX5_addSpit_71 : decode cX5_addSpit 71 = .ok (.getfield 42, 3) := by decide +kernel
theorem dX5_addSpit_74 : decode cX5_addSpit 74 = .ok (.iconst 1, 1) := by decide +kernel
theorem dX5_addSpit_75 : decode cX5_addSpit 75 = .ok (.iadd, 1) := by decide +kernel
theorem dX5_addSpit_76 : decode cX5_addSpit 76 = .ok (.putfield 42, 3) := by decide +kernel
theorem dX5_addSpit_79 : decode cX5_addSpit 79 = .ok (.aload_n 0, 1) := by decide +kernel
theorem dX5_addSpit_80 : decode cX5_addSpit 80 = .ok (.getfield 42, 3) := by decide +kernel
theorem dX5_addSpit_83 : decode cX5_addSpit 83 = .ok (.iconst 1, 1) := by decide +kernel
theorem dX5_addSpit_84 : decode cX5_addSpit 84 = .ok (.isub, 1) := by decide +kernel
theorem dX5_addSpit_85 : decode cX5_addSpit 85 = .ok (.ireturn, 1) := by decide +kernel
theorem dX5_moveSpit_0 : decode cX5_moveSpit 0 = .ok (.aload_n 0, 1) := by decide +kernel
theorem dX5_moveSpit_1 : decode cX5_moveSpit 1 = .ok (.iconst 0, 1) := by decide +kernel
theorem dX5_moveSpit_2 : decode cX5_moveSpit 2 = .ok (.putfield 32, 3) := by decide +kernel
theorem dX5_moveSpit_5 : decode cX5_moveSpit 5 = .ok (.aload_n 0, 1) := by decide +kernel
theorem dX5_moveSpit_6 : decode cX5_moveSpit 6 = .ok (.iload_n 1, 1) := by decide +kernel
theorem dX5_moveSpit_7 : decode cX5_moveSpit 7 = .ok (.invokevirtual 110, 3) := by decide +kernel
theorem dX5_moveSpit_10 : decode cX5_moveSpit 10 = .ok (.ifCond .ne 9, 3) := by decide +kernel
theorem dX5_moveSpit_13 : decode cX5_moveSpit 13 = .ok (.aload_n 0, 1) := by decide +kernel
theorem dX5_moveSpit_14 : decode cX5_moveSpit 14 = .ok (.iconst 1, 1) := by decide +kernel
theorem dX5_moveSpit_15 : decode cX5_moveSpit 15 = .ok (.invokevirtual 103, 3) := by decide +kernel
theorem dX5_moveSpit_18 : decode cX5_moveSpit 18 = .ok (.ireturn, 1) := by decide +kernel
theorem dX5_moveSpit_19 : decode cX5_moveSpit 19 = .ok (.iload_n 2, 1) := by decide +kernel
theorem dX5_moveSpit_20 : decode cX5_moveSpit 20 = .ok (.iconst 1, 1) := by decide +kernel
theorem dX5_moveSpit_21 : decode cX5_moveSpit 21 = .ok (.iconst 3, 1) := by decide +kernel
theorem dX5_moveSpit_22 : decode cX5_moveSpit 22 = .ok (.invokestatic 38, 3) := by decide +kernel
theorem dX5_moveSpit_25 : decode cX5_moveSpit 25 = .ok (.ifCond .ne 9, 3) := by decide +kernel
theorem dX5_moveSpit_28 : decode cX5_moveSpit 28 = .ok (.aload_n 0, 1) := by decide +kernel
theorem dX5_moveSpit_29 : decode cX5_moveSpit 29 = .ok (.iconst 2, 1) := by decide +kernel
theorem dX5_moveSpit_30 : decode cX5_moveSpit 30 = .ok (.invokevirtual 103, 3) := by decide +kernel
theorem dX5_moveSpit_33 : decode cX5_moveSpit 33 = .ok (.ireturn, 1) := by decide +kernel
theorem dX5_moveSpit_34 : decode cX5_moveSpit 34 = .ok (.aload_n 0, 1) := by decide +kernel
theorem dX5_moveSpit_35 : decode cX5_moveSpit 35 = .ok (.iload_n 1, 1) := by decide +kernel
theorem dX5_moveSpit_36 : decode cX5_moveSpit 36 = .ok (.iconst 0, 1) := by decide +kernel
theorem dX5_moveSpit_37 : decode cX5_moveSpit 37 = .ok (.invokevirtual 58, 3) := by decide +kernel
theorem dX5_moveSpit_40 : decode cX5_moveSpit 40 = .ok (.istore_n 3, 1) := by decide +kernel
theorem dX5_moveSpit_41 : decode cX5_moveSpit 41 = .ok (.aload_n 0, 1) := by decide +kernel
theorem dX5_moveSpit_42 : decode cX5_moveSpit 42 = .ok (.iload_n 1, 1) := by decide +kernel
theorem dX5_moveSpit_43 : decode cX5_moveSpit 43 = .ok (.iconst 0, 1) := by decide +kernel
theorem dX5_moveSpit_44 : decode cX5_moveSpit 44 = .ok (.iload_n 2, 1) := by decide +kernel
theorem dX5_moveSpit_45 : decode cX5_moveSpit 45 = .ok (.invokevirtual 86, 3) := by decide +kernel
theorem dX5_moveSpit_48 : decode cX5_moveSpit 48 = .ok (.iload_n 3, 1) := by decide +kernel
theorem dX5_moveSpit_49 : decode cX5_moveSpit 49 = .ok (.ireturn, 1) := by decide +kernel
theorem dX5_each_0 : decode cX5_each 0 = .ok (.aload_n 0, 1) := by decide +kernel
theorem dX5_each_1 : decode cX5_each 1 = .ok (.iload_n 1, 1) := by decide +kernel
theorem dX5_each_2 : decode cX5_each 2 = .ok (.iconst 4, 1) := by decide +kernel
theorem dX5_each_3 : decode cX5_each 3 = .ok (.iload_n 2, 1) := by decide +kernel
theorem dX5_each_4 : decode cX5_each 4 = .ok (.invokevirtual 86, 3) := by decide +kernel
theorem dX5_each_7 : decode cX5_each 7 = .ok (.aload_n 0, 1) := by decide +kernel
theorem dX5_each_8 : decode cX5_each 8 = .ok (.iload_n 1, 1) := by decide +kernel
theorem dX5_each_9 : decode cX5_each 9 = .ok (.iconst 3, 1) := by decide +kernel
theorem dX5_each_10 : decode cX5_each 10 = .ok (.iconst 0, 1) := by decide +kernel
theorem dX5_each_11 : decode cX5_each 11 = .ok (.invokevirtual 86, 3) := by decide +kernel
theorem dX5_each_14 : decode cX5_each 14 = .ok (.return_, 1) := by decide +kernel
theorem dX5_turnEach_0 : decode cX5_turnEach 0 = .ok (.aload_n 0, 1) := by decide +kernel
theorem dX5_turnEach_1 : decode cX5_turnEach 1 = .ok (.iconst 0, 1) := by decide +kernel
theorem dX5_turnEach_2 : decode cX5_turnEach 2 = .ok (.putfield 32, 3) := by decide +kernel
theorem dX5_turnEach_5 : decode cX5_turnEach 5 = .ok (.aload_n 0, 1) := by decide +kernel
theorem dX5_turnEach_6 : decode cX5_turnEach 6 = .ok (.iload_n 1, 1) := by decide +kernel
theorem dX5_turnEach_7 : decode cX5_turnEach 7 = .ok (.invokevirtual 110, 3) := by decide +kernel
theorem dX5_turnEach_10 : decode cX5_turnEach 10 = .ok (.ifCond .ne 9, 3) := by decide +kernel
theorem dX5_turnEach_13 : decode cX5_turnEach 13 = .ok (.aload_n 0, 1) := by decide +kernel
theorem dX5_turnEach_14 : decode cX5_turnEach 14 = .ok (.iconst 1, 1) := by decide +kernel
theorem dX5_turnEach_15 : decode cX5_turnEach 15 = .ok (.invokevirtual 103, 3) := by decide +kernel
theorem dX5_turnEach_18 : decode cX5_turnEach 18 = .ok (.ireturn, 1) := by decide +kernel
theorem dX5_turnEach_19 : decode cX5_turnEach 19 = .ok (.iload_n 2, 1) := by decide +kernel
theorem dX5_turnEach_20 : decode cX5_turnEach 20 = .ok (.iconst 0, 1) := by decide +kernel
theorem dX5_turnEach_21 : decode cX5_turnEach 21 = .ok (.bipush 9, 2) := by decide +kernel
theorem dX5_turnEach_23 : decode cX5_turnEach 23 = .ok (.invokestatic 38, 3) := by decide +kernel
theorem dX5_turnEach_26 : decode cX5_turnEach 26 = .ok (.ifCond .ne 9, 3) := by decide +kernel
theorem dX5_turnEach_29 : decode cX5_turnEach 29 = .ok (.aload_n 0, 1) := by decide +kernel
theorem dX5_turnEach_30 : decode cX5_turnEach 30 = .ok (.iconst 2, 1) := by decide +kernel
theorem dX5_turnEach_31 : decode cX5_turnEach 31 = .ok (.invokevirtual 103, 3) := by decide +kernel
theorem dX5_turnEach_34 : decode cX5_turnEach 34 = .ok (.ireturn, 1) := by decide +kernel
theorem dX5_turnEach_35 : decode cX5_turnEach 35 = .ok (.aload_n 0, 1) := by decide +kernel
theorem dX5_turnEach_36 : decode cX5_turnEach 36 = .ok (.iload_n 1, 1) := by decide +kernel
theorem dX5_turnEach_37 : decode cX5_turnEach 37 = .ok (.iconst 4, 1) := by decide +kernel
theorem dX5_turnEach_38 : decode cX5_turnEach 38 = .ok (.invokevirtual 58, 3) := by decide +kernel
theorem dX5_turnEach_41 : decode cX5_turnEach 41 = .ok (.istore_n 3, 1) := by decide +kernel
theorem dX5_turnEach_42 : decode cX5_turnEach 42 = .ok (.aload_n 0, 1) := by decide +kernel
theorem dX5_turnEach_43 : decode cX5_turnEach 43 = .ok (.iload_n 1, 1) := by decide +kernel
theorem dX5_turnEach_44 : decode cX5_turnEach 44 = .ok (.iload_n 2, 1) := by decide +kernel
theorem dX5_turnEach_45 : decode cX5_turnEach 45 = .ok (.invokevirtual 113, 3) := by decide +kernel
theorem dX5_turnEach_48 : decode cX5_turnEach 48 = .ok (.iload_n 3, 1) := by decide +kernel
theorem dX5_turnEach_49 : decode cX5_turnEach 49 = .ok (.ireturn, 1) := by decide +kernel
theorem dX5_setFeast_0 : decode cX5_setFeast 0 = .ok (.aload_n 0, 1) := by decide +kernel
theorem dX5_setFeast_1 : decode cX5_setFeast 1 = .ok (.iconst 0, 1) := by decide +kernel
theorem dX5_setFeast_2 : decode cX5_setFeast 2 = .ok (.putfield 32, 3) := by decide +kernel
theorem dX5_setFeast_5 : decode cX5_setFeast 5 = .ok (.iload_n 1, 1) := by decide +kernel
theorem dX5_setFeast_6 : decode cX5_setFeast 6 = .ok (.iconst 0, 1) := by decide +kernel
theorem dX5_setFeast_7 : decode cX5_setFeast 7 = .ok (.sipush 5000, 3) := by decide +kernel
theorem dX5_setFeast_10 : decode cX5_setFeast 10 = .ok (.invokestatic 38, 3) := by decide +kernel
theorem dX5_setFeast_13 : decode cX5_setFeast 13 = .ok (.ifCond .ne 9, 3) := by decide +kernel
theorem dX5_setFeast_16 : decode cX5_setFeast 16 = .ok (.aload_n 0, 1) := by decide +kernel
theorem dX5_setFeast_17 : decode cX5_setFeast 17 = .ok (.iconst 1, 1) := by decide +kernel
theorem dX5_setFeast_18 : decode cX5_setFeast 18 = .ok (.invokevirtual 103, 3) := by decide +kernel
theorem dX5_setFeast_21 : decode cX5_setFeast 21 = .ok (.ireturn, 1) := by decide +kernel
theorem dX5_setFeast_22 : decode cX5_setFeast 22 = .ok (.aload_n 0, 1) := by decide +kernel
theorem dX5_setFeast_23 : decode cX5_setFeast 23 = .ok (.getfield 7, 3) := by decide +kernel
theorem dX5_setFeast_26 : decode cX5_setFeast 26 = .ok (.istore_n 2, 1) := by decide +kernel
theorem dX5_setFeast_27 : decode cX5_setFeast 27 = .ok (.aload_n 0, 1) := by decide +kernel
theorem dX5_setFeast_28 : decode cX5_setFeast 28 = .ok (.iload_n 1, 1) := by decide +kernel
theorem dX5_setFeast_29 : decode cX5_setFeast 29 = .ok (.putfield 7, 3) := by decide +kernel
theorem dX5_setFeast_32 : decode cX5_setFeast 32 = .ok (.iload_n 2, 1) := by decide +kernel
theorem dX5_setFeast_33 : decode cX5_setFeast 33 = .ok (.ireturn, 1) := by decide +kernel
theorem dX5_hangNext_0 : decode cX5_hangNext 0 = .ok (.aload_n 0, 1) := by decide +kernel
theorem dX5_hangNext_1 : decode cX5_hangNext 1 = .ok (.getfield 17, 3) := by decide +kernel
theorem dX5_hangNext_4 : decode cX5_hangNext 4 = .ok (.aload_n 0, 1) := by decide +kernel
theorem dX5_hangNext_5 : decode cX5_hangNext 5 = .ok (.getfield 45, 3) := by decide +kernel
theorem dX5_hangNext_8 : decode cX5_hangNext 8 = .ok (.iload_n 2, 1) := by decide +kernel
theorem dX5_hangNext_9 : decode cX5_hangNext 9 = .ok (.iastore, 1) := by decide +kernel
theorem dX5_hangNext_10 : decode cX5_hangNext 10 = .ok (.iconst 0, 1) := by decide +kernel
theorem dX5_hangNext_11 : decode cX5_hangNext 11 = .ok (.istore_n 3, 1) := by decide +kernel
theorem dX5_hangNext_12 : decode cX5_hangNext 12 = .ok (.iload_n 3, 1) := by decide +kernel
theorem dX5_hangNext_13 : decode cX5_hangNext 13 = .ok (.bipush 8, 2) := by decide +kernel
theorem dX5_hangNext_15 : decode cX5_hangNext 15 = .ok (.if_icmp .ge 19, 3) := by decide +kernel
theorem dX5_hangNext_18 : decode cX5_hangNext 18 = .ok (.aload_n 0, 1) := by decide +kernel
theorem dX5_hangNext_19 : decode cX5_hangNext 19 = .ok (.aload_n 0, 1) := by decide +kernel
theorem dX5_hangNext_20 : decode cX5_hangNext 20 = .ok (.getfield 45, 3) := by decide +kernel
theorem dX5_hangNext_23 : decode cX5_hangNext 23 = .ok (.iload_n 3, 1) := by decide +kernel
theorem dX5_hangNext_24 : decode cX5_hangNext 24 = .ok (.iconst 0, 1) := by decide +kernel
theorem dX5_hangNext_25 : decode cX5_hangNext 25 = .ok (.invokevirtual 73, 3) := by decide +kernel
theorem dX5_hangNext_28 : decode cX5_hangNext 28 = .ok (.iinc 3 1, 3) := by decide +kernel
theorem dX5_hangNext_31 : decode cX5_hangNext 31 = .ok (.goto (-19), 3) := by decide +kernel
theorem dX5_hangNext_34 : decode cX5_hangNext 34 = .ok (.aload_n 0, 1) := by decide +kernel
theorem dX5_hangNext_35 : decode cX5_hangNext 35 = .ok (.aload_n 0, 1) := by decide +kernel
theorem dX5_hangNext_36 : decode cX5_hangNext 36 = .ok (.getfield 45, 3) := by decide +kernel
theorem dX5_hangNext_39 : decode cX5_hangNext 39 = .ok (.iconst 0, 1) := by decide +kernel
theorem dX5_hangNext_40 : decode cX5_hangNext 40 = .ok (.iload_n 1, 1) := by decide +kernel
theorem dX5_hangNext_41 : decode cX5_hangNext 41 = .ok (.iconst 1, 1) := by decide +kernel
theorem dX5_hangNext_42 : decode cX5_hangNext 42 = .ok (.iadd, 1) := by decide +kernel
theorem dX5_hangNext_43 : decode cX5_hangNext 43 = .ok (.invokevirtual 73, 3) := by decide +kernel
theorem dX5_hangNext_46 : decode cX5_hangNext 46 = .ok (.aload_n 0, 1) := by decide +kernel
theorem dX5_hangNext_47 : decode cX5_hangNext 47 = .ok (.aload_n 0, 1) := by decide +kernel
theorem dX5_hangNext_48 : decode cX5_hangNext 48 = .ok (.getfield 45, 3) := by decide +kernel
theorem dX5_hangNext_51 : decode cX5_hangNext 51 = .ok (.iconst 2, 1) := by decide +kernel
theorem dX5_hangNext_52 : decode cX5_hangNext 52 = .ok (.iconst 3, 1) := by decide +kernel
theorem dX5_hangNext_53 : decode cX5_hangNext 53 = .ok (.iload_n 2, 1) := by decide +kernel
theorem dX5_hangNext_54 : decode cX5_hangNext 54 = .ok (.imul, 1) := by decide +kernel
theorem dX5_hangNext_55 : decode cX5_hangNext 55 = .ok (.invokevirtual 73, 3) := by decide +kernel
theorem dX5_hangNext_58 : decode cX5_hangNext 58 = .ok (.aload_n 0, 1) := by decide +kernel
theorem dX5_hangNext_59 : decode cX5_hangNext 59 = .ok (.iload_n 1, 1) := by decide +kernel
theorem dX5_hangNext_60 : decode cX5_hangNext 60 = .ok (.iconst 2, 1) := by decide +kernel
theorem dX5_hangNext_61 : decode cX5_hangNext 61 = .ok (.aload_n 0, 1) := by decide +kernel
theorem dX5_hangNext_62 : decode cX5_hangNext 62 = .ok (.getfield 45, 3) := by decide +kernel
theorem dX5_hangNext_65 : decode cX5_hangNext 65 = .ok (.iconst 1, 1) := by decide +kernel
theorem dX5_hangNext_66 : decode cX5_hangNext 66 = .ok (.iadd, 1) := by decide +kernel
theorem dX5_hangNext_67 : decode cX5_hangNext 67 = .ok (.invokevirtual 86, 3) := by decide +kernel
theorem dX5_hangNext_70 : decode cX5_hangNext 70 = .ok (.aload_n 0, 1) := by decide +kernel
theorem dX5_hangNext_71 : decode cX5_hangNext 71 = .ok (.iload_n 1, 1) := by decide +kernel
theorem dX5_hangNext_72 : decode cX5_hangNext 72 = .ok (.iconst 3, 1) := by decide +kernel
theorem dX5_hangNext_73 : decode cX5_hangNext 73 = .ok (.iconst 0, 1) := by decide +kernel
theorem dX5_hangNext_74 : decode cX5_hangNext 74 = .ok (.invokevirtual 86, 3) := by decide +kernel
theorem dX5_hangNext_77 : decode cX5_hangNext 77 = .ok (.return_, 1) := by decide +kernel
theorem dX5_hang_0 : decode cX5_hang 0 = .ok (.aload_n 0, 1) := by decide +kernel
theorem dX5_hang_1 : decode cX5_hang 1 = .ok (.iconst 0, 1) := by decide +kernel
theorem dX5_hang_2 : decode cX5_hang 2 = .ok (.putfield 32, 3) := by decide +kernel
theorem dX5_hang_5 : decode cX5_hang 5 = .ok (.aload_n 0, 1) := by decide +kernel
theorem dX5_hang_6 : decode cX5_hang 6 = .ok (.iload_n 1, 1) := by decide +kernel
theorem dX5_hang_7 : decode cX5_hang 7 = .ok (.invokevirtual 110, 3) := by decide +kernel
theorem dX5_hang_10 : decode cX5_hang 10 = .ok (.ifCond .ne 9, 3) := by decide +kernel
theorem dX5_hang_13 : decode cX5_hang 13 = .ok (.aload_n 0, 1) := by decide +kernel
theorem dX5_hang_14 : decode cX5_hang 14 = .ok (.iconst 1, 1) := by decide +kernel
theorem dX5_hang_15 : decode cX5_hang 15 = .ok (.invokevirtual 103, 3) := by decide +kernel
theorem dX5_hang_18 : decode cX5_hang 18 = .ok (.ireturn, 1) := by decide +kernel
theorem dX5_hang_19 : decode cX5_hang 19 = .ok (.iload_n 2, 1) := by decide +kernel
theorem dX5_hang_20 : decode cX5_hang 20 = .ok (.iconst 1, 1) := by decide +kernel
theorem dX5_hang_21 : decode cX5_hang 21 = .ok (.bipush 12, 2) := by decide +kernel
theorem dX5_hang_23 : decode cX5_hang 23 = .ok (.invokestatic 38, 3) := by decide +kernel
theorem dX5_hang_26 : decode cX5_hang 26 = .ok (.ifCond .ne 9, 3) := by decide +kernel
theorem dX5_hang_29 : decode cX5_hang 29 = .ok (.aload_n 0, 1) := by decide +kernel
theorem dX5_hang_30 : decode cX5_hang 30 = .ok (.iconst 2, 1) := by decide +kernel
theorem dX5_hang_31 : decode cX5_hang 31 = .ok (.invokevirtual 103, 3) := by decide +kernel
theorem dX5_hang_34 : decode cX5_hang 34 = .ok (.ireturn, 1) := by decide +kernel
theorem dX5_hang_35 : decode cX5_hang 35 = .ok (.aload_n 0, 1) := by decide +kernel
theorem dX5_hang_36 : decode cX5_hang 36 = .ok (.iload_n 1, 1) := by decide +kernel
theorem dX5_hang_37 : decode cX5_hang 37 = .ok (.iconst 2, 1) := by decide +kernel
theorem dX5_hang_38 : decode cX5_hang 38 = .ok (.invokevirtual 58, 3) := by decide +kernel
theorem dX5_hang_41 : decode cX5_hang 41 = .ok (.ifCond .gt 12, 3) := by decide +kernel
theorem dX5_hang_44 : decode cX5_hang 44 = .ok (.aload_n 0, 1) := by decide +kernel
theorem dX5_hang_45 : decode cX5_hang 45 = .ok (.getfield 45, 3) := by decide +kernel
theorem dX5_hang_48 : decode cX5_hang 48 = .ok (.bipush 16, 2) := by decide +kernel
theorem dX5_hang_50 : decode cX5_hang 50 = .ok (.if_icmp .ne 9, 3) := by decide +kernel
theorem dX5_hang_53 : decode cX5_hang 53 = .ok (.aload_n 0, 1) := by decide +kernel
theorem dX5_hang_54 : decode cX5_hang 54 = .ok (.iconst 3, 1) := by decide +kernel
theorem dX5_hang_55 : decode cX5_hang 55 = .ok (.invokevirtual 103, 3) := by decide +kernel
theorem dX5_hang_58 : decode cX5_hang 58 = .ok (.ireturn, 1) := by decide +kernel
theorem dX5_hang_59 : decode cX5_hang 59 = .ok (.aload_n 0, 1) := by decide +kernel
theorem dX5_hang_60 : decode cX5_hang 60 = .ok (.iload_n 1, 1) := by decide +kernel
theorem dX5_hang_61 : decode cX5_hang 61 = .ok (.iload_n 2, 1) := by decide +kernel
theorem dX5_hang_62 : decode cX5_hang 62 = .ok (.invokevirtual 116, 3) := by decide +kernel
theorem dX5_hang_65 : decode cX5_hang 65 = .ok (.aload_n 0, 1) := by decide +kernel
theorem dX5_hang_66 : decode cX5_hang 66 = .ok (.dup, 1) := by decide +kernel
theorem dX5_hang_67 : decode cX5_hang 67 = .ok (.getfield 45, 3) := by decide +kernel
theorem dX5_hang_70 : decode cX5_hang 70 = .ok (.iconst 1, 1) := by decide +kernel
theorem dX5_hang_71 : decode cX5_hang 71 = .ok (.iadd, 1) := by decide +kernel
theorem dX5_hang_72 : decode cX5_hang 72 = .ok (.putfield 45, 3) := by decide +kernel
theorem dX5_hang_75 : decode cX5_hang 75 = .ok (.aload_n 0, 1) := by decide +kernel
theorem dX5_hang_76 : decode cX5_hang 76 = .ok (.getfield 45, 3) := by decide +kernel
theorem dX5_hang_79 : decode cX5_hang 79 = .ok (.iconst 1, 1) := by decide +kernel
theorem dX5_hang_80 : decode cX5_hang 80 = .ok (.isub, 1) := by decide +kernel
theorem dX5_hang_81 : decode cX5_hang 81 = .ok (.ireturn, 1) := by decide +kernel
theorem dX5_holds_0 : decode cX5_holds 0 = .ok (.aload_n 0, 1) := by decide +kernel
theorem dX5_holds_1 : decode cX5_holds 1 = .ok (.aload_n 0, 1) := by decide +kernel
theorem dX5_holds_2 : decode cX5_holds 2 = .ok (.iload_n 1, 1) := by decide +kernel
theorem dX5_holds_3 : decode cX5_holds 3 = .ok (.invokevirtual 110, 3) := by decide +kernel
theorem dX5_holds_6 : decode cX5_holds 6 = .ok (.ifCond .ne 7, 3) := by decide +kernel
theorem dX5_holds_9 : decode cX5_holds 9 = .ok (.iconst 1, 1) := by decide +kernel
theorem dX5_holds_10 : decode cX5_holds 10 = .ok (.goto 17, 3) := by decide +kernel
theorem dX5_holds_13 : decode cX5_holds 13 = .ok (.aload_n 0, 1) := by decide +kernel
theorem dX5_holds_14 : decode cX5_holds 14 = .ok (.iload_n 1, 1) := by decide +kernel
theorem dX5_holds_15 : decode cX5_holds 15 = .ok (.iconst 2, 1) := by decide +kernel
theorem dX5_holds_16 : decode cX5_holds 16 = .ok (.invokevirtual 58, 3) := by decide +kernel
theorem dX5_holds_19 : decode cX5_holds 19 = .ok (.ifCond .ne 7, 3) := by decide +kernel
theorem dX5_holds_22 : decode cX5_holds 22 = .ok (.iconst 2, 1) := by decide +kernel
theorem dX5_holds_23 : decode cX5_holds 23 = .ok (.goto 4, 3) := by decide +kernel
theorem dX5_holds_26 : decode cX5_holds 26 = .ok (.iconst 0, 1) := by decide +kernel
theorem dX5_holds_27 : decode cX5_holds 27 = .ok (.putfield 32, 3) := by decide +kernel
theorem dX5_holds_30 : decode cX5_holds 30 = .ok (.aload_n 0, 1) := by decide +kernel
theorem dX5_holds_31 : decode cX5_holds 31 = .ok (.getfield 32, 3) := by decide +kernel
theorem dX5_holds_34 : decode cX5_holds 34 = .ok (.ifCond .ne 7, 3) := by decide +kernel
theorem dX5_holds_37 : decode cX5_holds 37 = .ok (.iconst 1, 1) := by decide +kernel
theorem dX5_holds_38 : decode cX5_holds 38 = .ok (.goto 4, 3) := by decide +kernel
theorem dX5_holds_41 : decode cX5_holds 41 = .ok (.iconst 0, 1) := by decide +kernel
theorem dX5_holds_42 : decode cX5_holds 42 = .ok (.ireturn, 1) := by decide +kernel
theorem dX5_turnNow_0 : decode cX5_turnNow 0 = .ok (.aload_n 0, 1) := by decide +kernel
theorem dX5_turnNow_1 : decode cX5_turnNow 1 = .ok (.iload_n 1, 1) := by decide +kernel
theorem dX5_turnNow_2 : decode cX5_turnNow 2 = .ok (.invokevirtual 119, 3) := by decide +kernel
theorem dX5_turnNow_5 : decode cX5_turnNow 5 = .ok (.ifCond .ne 5, 3) := by decide +kernel
theorem dX5_turnNow_8 : decode cX5_turnNow 8 = .ok (.iconst 0, 1) := by decide +kernel
theorem dX5_turnNow_9 : decode cX5_turnNow 9 = .ok (.ireturn, 1) := by decide +kernel
theorem dX5_turnNow_10 : decode cX5_turnNow 10 = .ok (.aload_n 0, 1) := by decide +kernel
theorem dX5_turnNow_11 : decode cX5_turnNow 11 = .ok (.aload_n 0, 1) := by decide +kernel
theorem dX5_turnNow_12 : decode cX5_turnNow 12 = .ok (.iload_n 1, 1) := by decide +kernel
theorem dX5_turnNow_13 : decode cX5_turnNow 13 = .ok (.iconst 2, 1) := by decide +kernel
theorem dX5_turnNow_14 : decode cX5_turnNow 14 = .ok (.invokevirtual 58, 3) := by decide +kernel
theorem dX5_turnNow_17 : decode cX5_turnNow 17 = .ok (.iconst 1, 1) := by decide +kernel
theorem dX5_turnNow_18 : decode cX5_turnNow 18 = .ok (.isub, 1) := by decide +kernel
theorem dX5_turnNow_19 : decode cX5_turnNow 19 = .ok (.invokevirtual 96, 3) := by decide +kernel
theorem dX5_turnNow_22 : decode cX5_turnNow 22 = .ok (.aload_n 0, 1) := by decide +kernel
theorem dX5_turnNow_23 : decode cX5_turnNow 23 = .ok (.aload_n 0, 1) := by decide +kernel
theorem dX5_turnNow_24 : decode cX5_turnNow 24 = .ok (.iload_n 1, 1) := by decide +kernel
theorem dX5_turnNow_25 : decode cX5_turnNow 25 = .ok (.iconst 2, 1) := by decide +kernel
theorem dX5_turnNow_26 : decode cX5_turnNow 26 = .ok (.invokevirtual 58, 3) := by decide +kernel
theorem dX5_turnNow_29 : decode cX5_turnNow 29 = .ok (.iconst 1, 1) := by decide +kernel
theorem dX5_turnNow_30 : decode cX5_turnNow 30 = .ok (.isub, 1) := by decide +kernel
theorem dX5_turnNow_31 : decode cX5_turnNow 31 = .ok (.iconst 1, 1) := by decide +kernel
theorem dX5_turnNow_32 : decode cX5_turnNow 32 = .ok (.invokevirtual 61, 3) := by decide +kernel
theorem dX5_turnNow_35 : decode cX5_turnNow 35 = .ok (.ireturn, 1) := by decide +kernel
theorem dX5_baste_0 : decode cX5_baste 0 = .ok (.aload_n 0, 1) := by decide +kernel
theorem dX5_baste_1 : decode cX5_baste 1 = .ok (.iload_n 1, 1) := by decide +kernel
theorem dX5_baste_2 : decode cX5_baste 2 = .ok (.invokevirtual 119, 3) := by decide +kernel
theorem dX5_baste_5 : decode cX5_baste 5 = .ok (.ifCond .ne 5, 3) := by decide +kernel
theorem dX5_baste_8 : decode cX5_baste 8 = .ok (.iconst 0, 1) := by decide +kernel
theorem dX5_baste_9 : decode cX5_baste 9 = .ok (.ireturn, 1) := by decide +kernel
theorem dX5_baste_10 : decode cX5_baste 10 = .ok (.aload_n 0, 1) := by decide +kernel
theorem dX5_baste_11 : decode cX5_baste 11 = .ok (.iload_n 1, 1) := by decide +kernel
theorem dX5_baste_12 : decode cX5_baste 12 = .ok (.iconst 1, 1) := by decide +kernel
theorem dX5_baste_13 : decode cX5_baste 13 = .ok (.invokevirtual 58, 3) := by decide +kernel
theorem dX5_baste_16 : decode cX5_baste 16 = .ok (.iconst 2, 1) := by decide +kernel
theorem dX5_baste_17 : decode cX5_baste 17 = .ok (.if_icmp .ge 9, 3) := by decide +kernel
theorem dX5_baste_20 : decode cX5_baste 20 = .ok (.aload_n 0, 1) := by decide +kernel
theorem dX5_baste_21 : decode cX5_baste 21 = .ok (.iconst 2, 1) := by decide +kernel
theorem dX5_baste_22 : decode cX5_baste 22 = .ok (.invokevirtual 103, 3) := by decide +kernel
theorem dX5_baste_25 : decode cX5_baste 25 = .ok (.ireturn, 1) := by decide +kernel
theorem dX5_baste_26 : decode cX5_baste 26 = .ok (.aload_n 0, 1) := by decide +kernel
theorem dX5_baste_27 : decode cX5_baste 27 = .ok (.iload_n 1, 1) := by decide +kernel
theorem dX5_baste_28 : decode cX5_baste 28 = .ok (.iconst 1, 1) := by decide +kernel
theorem dX5_baste_29 : decode cX5_baste 29 = .ok (.aload_n 0, 1) := by decide +kernel
theorem dX5_baste_30 : decode cX5_baste 30 = .ok (.iload_n 1, 1) := by decide +kernel
theorem dX5_baste_31 : decode cX5_baste 31 = .ok (.iconst 1, 1) := by decide +kernel
theorem dX5_baste_32 : decode cX5_baste 32 = .ok (.invokevirtual 58, 3) := by decide +kernel
theorem dX5_baste_35 : decode cX5_baste 35 = .ok (.iconst 2, 1) := by decide +kernel
theorem dX5_baste_36 : decode cX5_baste 36 = .ok (.isub, 1) := by decide +kernel
theorem dX5_baste_37 : decode cX5_baste 37 = .ok (.invokevirtual 86, 3) := by decide +kernel
theorem dX5_baste_40 : decode cX5_baste 40 = .ok (.aload_n 0, 1) := by decide +kernel
theorem dX5_baste_41 : decode cX5_baste 41 = .ok (.aload_n 0, 1) := by decide +kernel
theorem dX5_baste_42 : decode cX5_baste 42 = .ok (.iload_n 1, 1) := by decide +kernel
theorem dX5_baste_43 : decode cX5_baste 43 = .ok (.iconst 2, 1) := by decide +kernel
theorem dX5_baste_44 : decode cX5_baste 44 = .ok (.invokevirtual 58, 3) := by decide +kernel
theorem dX5_baste_47 : decode cX5_baste 47 = .ok (.iconst 1, 1) := by decide +kernel
theorem dX5_baste_48 : decode cX5_baste 48 = .ok (.isub, 1) := by decide +kernel
theorem dX5_baste_49 : decode cX5_baste 49 = .ok (.iconst 3, 1) := by decide +kernel
theorem dX5_baste_50 : decode cX5_baste 50 = .ok (.iconst 3, 1) := by decide +kernel
theorem dX5_baste_51 : decode cX5_baste 51 = .ok (.invokevirtual 73, 3) := by decide +kernel
theorem dX5_baste_54 : decode cX5_baste 54 = .ok (.aload_n 0, 1) := by decide +kernel
theorem dX5_baste_55 : decode cX5_baste 55 = .ok (.iload_n 1, 1) := by decide +kernel
theorem dX5_baste_56 : decode cX5_baste 56 = .ok (.iconst 1, 1) := by decide +kernel
theorem dX5_baste_57 : decode cX5_baste 57 = .ok (.invokevirtual 58, 3) := by decide +kernel
theorem dX5_baste_60 : decode cX5_baste 60 = .ok (.ireturn, 1) := by decide +kernel
theorem dX5_takeDown_0 : decode cX5_takeDown 0 = .ok (.aload_n 0, 1) := by decide +kernel
theorem dX5_takeDown_1 : decode cX5_takeDown 1 = .ok (.iload_n 1, 1) := by decide +kernel
theorem dX5_takeDown_2 : decode cX5_takeDown 2 = .ok (.invokevirtual 119, 3) := by decide +kernel
theorem dX5_takeDown_5 : decode cX5_takeDown 5 = .ok (.ifCond .ne 5, 3) := by decide +kernel
theorem dX5_takeDown_8 : decode cX5_takeDown 8 = .ok (.iconst 0, 1) := by decide +kernel
theorem dX5_takeDown_9 : decode cX5_takeDown 9 = .ok (.ireturn, 1) := by decide +kernel
theorem dX5_takeDown_10 : decode cX5_takeDown 10 = .ok (.aload_n 0, 1) := by decide +kernel
theorem dX5_takeDown_11 : decode cX5_takeDown 11 = .ok (.iload_n 1, 1) := by decide +kernel
theorem dX5_takeDown_12 : decode cX5_takeDown 12 = .ok (.iconst 2, 1) := by decide +kernel
theorem dX5_takeDown_13 : decode cX5_takeDown 13 = .ok (.invokevirtual 58, 3) := by decide +kernel
theorem dX5_takeDown_16 : decode cX5_takeDown 16 = .ok (.iconst 1, 1) := by decide +kernel
theorem dX5_takeDown_17 : decode cX5_takeDown 17 = .ok (.isub, 1) := by decide +kernel
theorem dX5_takeDown_18 : decode cX5_takeDown 18 = .ok (.istore_n 2, 1) := by decide +kernel
theorem dX5_takeDown_19 : decode cX5_takeDown 19 = .ok (.aload_n 0, 1) := by decide +kernel
theorem dX5_takeDown_20 : decode cX5_takeDown 20 = .ok (.iload_n 1, 1) := by decide +kernel
theorem dX5_takeDown_21 : decode cX5_takeDown 21 = .ok (.iconst 2, 1) := by decide +kernel
theorem dX5_takeDown_22 : decode cX5_takeDown 22 = .ok (.iconst 0, 1) := by decide +kernel
theorem dX5_takeDown_23 : decode cX5_takeDown 23 = .ok (.invokevirtual 86, 3) := by decide +kernel
theorem dX5_takeDown_26 : decode cX5_takeDown 26 = .ok (.aload_n 0, 1) := by decide +kernel
theorem dX5_takeDown_27 : decode cX5_takeDown 27 = .ok (.iload_n 2, 1) := by decide +kernel
theorem dX5_takeDown_28 : decode cX5_takeDown 28 = .ok (.iconst 0, 1) := by decide +kernel
theorem dX5_takeDown_29 : decode cX5_takeDown 29 = .ok (.iconst 0, 1) := by decide +kernel
theorem dX5_takeDown_30 : decode cX5_takeDown 30 = .ok (.invokevirtual 73, 3) := by decide +kernel
theorem dX5_takeDown_33 : decode cX5_takeDown 33 = .ok (.iload_n 2, 1) := by decide +kernel
theorem dX5_takeDown_34 : decode cX5_takeDown 34 = .ok (.ireturn, 1) := by decide +kernel
theorem dX5_emptyPan_0 : decode cX5_emptyPan 0 = .ok (.aload_n 0, 1) := by decide +kernel
theorem dX5_emptyPan_1 : decode cX5_emptyPan 1 = .ok (.iconst 0, 1) := by decide +kernel
theorem dX5_emptyPan_2 : decode cX5_emptyPan 2 = .ok (.putfield 32, 3) := by decide +kernel
theorem dX5_emptyPan_5 : decode cX5_emptyPan 5 = .ok (.aload_n 0, 1) := by decide +kernel
theorem dX5_emptyPan_6 : decode cX5_emptyPan 6 = .ok (.iload_n 1, 1) := by decide +kernel
theorem dX5_emptyPan_7 : decode cX5_emptyPan 7 = .ok (.invokevirtual 110, 3) := by decide +kernel
theorem dX5_emptyPan_10 : decode cX5_emptyPan 10 = .ok (.ifCond .ne 9, 3) := by decide +kernel
theorem dX5_emptyPan_13 : decode cX5_emptyPan 13 = .ok (.aload_n 0, 1) := by decide +kernel
theorem dX5_emptyPan_14 : decode cX5_emptyPan 14 = .ok (.iconst 1, 1) := by decide +kernel
theorem dX5_emptyPan_15 : decode cX5_emptyPan 15 = .ok (.invokevirtual 103, 3) := by decide +kernel
theorem dX5_emptyPan_18 : decode cX5_emptyPan 18 = .ok (.ireturn, 1) := by decide +kernel
theorem dX5_emptyPan_19 : decode cX5_emptyPan 19 = .ok (.aload_n 0, 1) := by decide +kernel
theorem dX5_emptyPan_20 : decode cX5_emptyPan 20 = .ok (.iload_n 1, 1) := by decide +kernel
theorem dX5_emptyPan_21 : decode cX5_emptyPan 21 = .ok (.iconst 1, 1) := by decide +kernel
theorem dX5_emptyPan_22 : decode cX5_emptyPan 22 = .ok (.invokevirtual 58, 3) := by decide +kernel
theorem dX5_emptyPan_25 : decode cX5_emptyPan 25 = .ok (.istore_n 2, 1) := by decide +kernel
theorem dX5_emptyPan_26 : decode cX5_emptyPan 26 = .ok (.aload_n 0, 1) := by decide +kernel
theorem dX5_emptyPan_27 : decode cX5_emptyPan 27 = .ok (.iload_n 1, 1) := by decide +kernel
theorem dX5_emptyPan_28 : decode cX5_emptyPan 28 = .ok (.iconst 1, 1) := by decide +kernel
theorem dX5_emptyPan_29 : decode cX5_emptyPan 29 = .ok (.iconst 0, 1) := by decide +kernel
theorem dX5_emptyPan_30 : decode cX5_emptyPan 30 = .ok (.invokevirtual 86, 3) := by decide +kernel
theorem dX5_emptyPan_33 : decode cX5_emptyPan 33 = .ok (.iload_n 2, 1) := by decide +kernel
theorem dX5_emptyPan_34 : decode cX5_emptyPan 34 = .ok (.ireturn, 1) := by decide +kernel
theorem dX5_pass_0 : decode cX5_pass 0 = .ok (.aload_n 0, 1) := by decide +kernel
theorem dX5_pass_1 : decode cX5_pass 1 = .ok (.iconst 0, 1) := by decide +kernel
theorem dX5_pass_2 : decode cX5_pass 2 = .ok (.putfield 32, 3) := by decide +kernel
theorem dX5_pass_5 : decode cX5_pass 5 = .ok (.iload_n 1, 1) := by decide +kernel
theorem dX5_pass_6 : decode cX5_pass 6 = .ok (.iconst 1, 1) := by decide +kernel
theorem dX5_pass_7 : decode cX5_pass 7 = .ok (.sipush 200, 3) := by decide +kernel
theorem dX5_pass_10 : decode cX5_pass 10 = .ok (.invokestatic 38, 3) := by decide +kernel
theorem dX5_pass_13 : decode cX5_pass 13 = .ok (.ifCond .ne 9, 3) := by decide +kernel
theorem dX5_pass_16 : decode cX5_pass 16 = .ok (.aload_n 0, 1) := by decide +kernel
theorem dX5_pass_17 : decode cX5_pass 17 = .ok (.iconst 1, 1) := by decide +kernel
theorem dX5_pass_18 : decode cX5_pass 18 = .ok (.invokevirtual 103, 3) := by decide +kernel
theorem dX5_pass_21 : decode cX5_pass 21 = .ok (.ireturn, 1) := by decide +kernel
theorem dX5_pass_22 : decode cX5_pass 22 = .ok (.iconst 0, 1) := by decide +kernel
theorem dX5_pass_23 : decode cX5_pass 23 = .ok (.istore_n 2, 1) := by decide +kernel
theorem dX5_pass_24 : decode cX5_pass 24 = .ok (.iconst 0, 1) := by decide +kernel
theorem dX5_pass_25 : decode cX5_pass 25 = .ok (.istore_n 3, 1) := by decide +kernel
theorem dX5_pass_26 : decode cX5_pass 26 = .ok (.iload_n 3, 1) := by decide +kernel
theorem dX5_pass_27 : decode cX5_pass 27 = .ok (.iload_n 1, 1) := by decide +kernel
theorem dX5_pass_28 : decode cX5_pass 28 = .ok (.if_icmp .ge 16, 3) := by decide +kernel
theorem dX5_pass_31 : decode cX5_pass 31 = .ok (.iload_n 2, 1) := by decide +kernel
end
section
theorem dX5_pass_32 : decode cX5_pass 32 = .ok (.aload_n 0, 1) := by decide +kernel
theorem dX5_pass_33 : decode cX5_pass 33 = .ok (.invokevirtual 122, 3) := by decide +kernel
theorem dX5_pass_36 : decode cX5_pass 36 = .ok (.iadd, 1) := by decide +kernel
theorem dX5_pass_37 : decode cX5_pass 37 = .ok (.istore_n 2, 1) := by decide +kernel
theorem dX5_pass_38 : decode cX5_pass 38 = .ok (.iinc 3 1, 3) := by decide +kernel
theorem dX5_pass_41 : decode cX5_pass 41 = .ok (.goto (-15), 3) := by decide +kernel
theorem dX5_pass_44 : decode cX5_pass 44 = .ok (.iload_n 2, 1) := by decide +kernel
theorem dX5_pass_45 : decode cX5_pass 45 = .ok (.ireturn, 1) := by decide +kernel
theorem dX5_minute_0 : decode cX5_minute 0 = .ok (.aload_n 0, 1) := by decide +kernel
theorem dX5_minute_1 : decode cX5_minute 1 = .ok (.aload_n 0, 1) := by decide +kernel
theorem dX5_minute_2 : decode cX5_minute 2 = .ok (.getfield 26, 3) := by decide +kernel
theorem dX5_minute_5 : decode cX5_minute 5 = .ok (.iconst 0, 1) := by decide +kernel
theorem dX5_minute_6 : decode cX5_minute 6 = .ok (.iaload, 1) := by decide +kernel
theorem dX5_minute_7 : decode cX5_minute 7 = .ok (.invokevirtual 126, 3) := by decide +kernel
theorem dX5_minute_10 : decode cX5_minute 10 = .ok (.ireturn, 1) := by decide +kernel
theorem dX5_feast_0 : decode cX5_feast 0 = .ok (.aload_n 0, 1) := by decide +kernel
theorem dX5_feast_1 : decode cX5_feast 1 = .ok (.aload_n 0, 1) := by decide +kernel
theorem dX5_feast_2 : decode cX5_feast 2 = .ok (.getfield 7, 3) := by decide +kernel
theorem dX5_feast_5 : decode cX5_feast 5 = .ok (.invokevirtual 126, 3) := by decide +kernel
theorem dX5_feast_8 : decode cX5_feast 8 = .ok (.ireturn, 1) := by decide +kernel
theorem dX5_fires_0 : decode cX5_fires 0 = .ok (.aload_n 0, 1) := by decide +kernel
theorem dX5_fires_1 : decode cX5_fires 1 = .ok (.aload_n 0, 1) := by decide +kernel
theorem dX5_fires_2 : decode cX5_fires 2 = .ok (.getfield 35, 3) := by decide +kernel
theorem dX5_fires_5 : decode cX5_fires 5 = .ok (.invokevirtual 126, 3) := by decide +kernel
theorem dX5_fires_8 : decode cX5_fires 8 = .ok (.ireturn, 1) := by decide +kernel
theorem dX5_fire_0 : decode cX5_fire 0 = .ok (.aload_n 0, 1) := by decide +kernel
theorem dX5_fire_1 : decode cX5_fire 1 = .ok (.iconst 0, 1) := by decide +kernel
theorem dX5_fire_2 : decode cX5_fire 2 = .ok (.putfield 32, 3) := by decide +kernel
theorem dX5_fire_5 : decode cX5_fire 5 = .ok (.aload_n 0, 1) := by decide +kernel
theorem dX5_fire_6 : decode cX5_fire 6 = .ok (.iload_n 1, 1) := by decide +kernel
theorem dX5_fire_7 : decode cX5_fire 7 = .ok (.invokevirtual 106, 3) := by decide +kernel
theorem dX5_fire_10 : decode cX5_fire 10 = .ok (.ifCond .eq 12, 3) := by decide +kernel
theorem dX5_fire_13 : decode cX5_fire 13 = .ok (.aload_n 0, 1) := by decide +kernel
theorem dX5_fire_14 : decode cX5_fire 14 = .ok (.iload_n 1, 1) := by decide +kernel
theorem dX5_fire_15 : decode cX5_fire 15 = .ok (.iload_n 2, 1) := by decide +kernel
theorem dX5_fire_16 : decode cX5_fire 16 = .ok (.invokevirtual 54, 3) := by decide +kernel
theorem dX5_fire_19 : decode cX5_fire 19 = .ok (.goto 8, 3) := by decide +kernel
theorem dX5_fire_22 : decode cX5_fire 22 = .ok (.aload_n 0, 1) := by decide +kernel
theorem dX5_fire_23 : decode cX5_fire 23 = .ok (.iconst 1, 1) := by decide +kernel
theorem dX5_fire_24 : decode cX5_fire 24 = .ok (.invokevirtual 103, 3) := by decide +kernel
theorem dX5_fire_27 : decode cX5_fire 27 = .ok (.ireturn, 1) := by decide +kernel
theorem dX5_logsOf_0 : decode cX5_logsOf 0 = .ok (.aload_n 0, 1) := by decide +kernel
theorem dX5_logsOf_1 : decode cX5_logsOf 1 = .ok (.iload_n 1, 1) := by decide +kernel
theorem dX5_logsOf_2 : decode cX5_logsOf 2 = .ok (.iconst 0, 1) := by decide +kernel
theorem dX5_logsOf_3 : decode cX5_logsOf 3 = .ok (.invokevirtual 129, 3) := by decide +kernel
theorem dX5_logsOf_6 : decode cX5_logsOf 6 = .ok (.ireturn, 1) := by decide +kernel
theorem dX5_heatOf_0 : decode cX5_heatOf 0 = .ok (.aload_n 0, 1) := by decide +kernel
theorem dX5_heatOf_1 : decode cX5_heatOf 1 = .ok (.iload_n 1, 1) := by decide +kernel
theorem dX5_heatOf_2 : decode cX5_heatOf 2 = .ok (.iconst 1, 1) := by decide +kernel
theorem dX5_heatOf_3 : decode cX5_heatOf 3 = .ok (.invokevirtual 129, 3) := by decide +kernel
theorem dX5_heatOf_6 : decode cX5_heatOf 6 = .ok (.ireturn, 1) := by decide +kernel
theorem dX5_spits_0 : decode cX5_spits 0 = .ok (.aload_n 0, 1) := by decide +kernel
theorem dX5_spits_1 : decode cX5_spits 1 = .ok (.aload_n 0, 1) := by decide +kernel
theorem dX5_spits_2 : decode cX5_spits 2 = .ok (.getfield 42, 3) := by decide +kernel
theorem dX5_spits_5 : decode cX5_spits 5 = .ok (.invokevirtual 126, 3) := by decide +kernel
theorem dX5_spits_8 : decode cX5_spits 8 = .ok (.ireturn, 1) := by decide +kernel
theorem dX5_fireOf_0 : decode cX5_fireOf 0 = .ok (.aload_n 0, 1) := by decide +kernel
theorem dX5_fireOf_1 : decode cX5_fireOf 1 = .ok (.iconst 0, 1) := by decide +kernel
theorem dX5_fireOf_2 : decode cX5_fireOf 2 = .ok (.putfield 32, 3) := by decide +kernel
theorem dX5_fireOf_5 : decode cX5_fireOf 5 = .ok (.aload_n 0, 1) := by decide +kernel
theorem dX5_fireOf_6 : decode cX5_fireOf 6 = .ok (.iload_n 1, 1) := by decide +kernel
theorem dX5_fireOf_7 : decode cX5_fireOf 7 = .ok (.invokevirtual 110, 3) := by decide +kernel
theorem dX5_fireOf_10 : decode cX5_fireOf 10 = .ok (.ifCond .eq 12, 3) := by decide +kernel
theorem dX5_fireOf_13 : decode cX5_fireOf 13 = .ok (.aload_n 0, 1) := by decide +kernel
theorem dX5_fireOf_14 : decode cX5_fireOf 14 = .ok (.getfield 13, 3) := by decide +kernel
theorem dX5_fireOf_17 : decode cX5_fireOf 17 = .ok (.iload_n 1, 1) := by decide +kernel
theorem dX5_fireOf_18 : decode cX5_fireOf 18 = .ok (.iaload, 1) := by decide +kernel
theorem dX5_fireOf_19 : decode cX5_fireOf 19 = .ok (.goto 8, 3) := by decide +kernel
theorem dX5_fireOf_22 : decode cX5_fireOf 22 = .ok (.aload_n 0, 1) := by decide +kernel
theorem dX5_fireOf_23 : decode cX5_fireOf 23 = .ok (.iconst 1, 1) := by decide +kernel
theorem dX5_fireOf_24 : decode cX5_fireOf 24 = .ok (.invokevirtual 103, 3) := by decide +kernel
theorem dX5_fireOf_27 : decode cX5_fireOf 27 = .ok (.ireturn, 1) := by decide +kernel
theorem dX5_spit_0 : decode cX5_spit 0 = .ok (.aload_n 0, 1) := by decide +kernel
theorem dX5_spit_1 : decode cX5_spit 1 = .ok (.iconst 0, 1) := by decide +kernel
theorem dX5_spit_2 : decode cX5_spit 2 = .ok (.putfield 32, 3) := by decide +kernel
theorem dX5_spit_5 : decode cX5_spit 5 = .ok (.aload_n 0, 1) := by decide +kernel
theorem dX5_spit_6 : decode cX5_spit 6 = .ok (.iload_n 1, 1) := by decide +kernel
theorem dX5_spit_7 : decode cX5_spit 7 = .ok (.invokevirtual 110, 3) := by decide +kernel
theorem dX5_spit_10 : decode cX5_spit 10 = .ok (.ifCond .eq 12, 3) := by decide +kernel
theorem dX5_spit_13 : decode cX5_spit 13 = .ok (.aload_n 0, 1) := by decide +kernel
theorem dX5_spit_14 : decode cX5_spit 14 = .ok (.iload_n 1, 1) := by decide +kernel
theorem dX5_spit_15 : decode cX5_spit 15 = .ok (.iload_n 2, 1) := by decide +kernel
theorem dX5_spit_16 : decode cX5_spit 16 = .ok (.invokevirtual 58, 3) := by decide +kernel
theorem dX5_spit_19 : decode cX5_spit 19 = .ok (.goto 8, 3) := by decide +kernel
theorem dX5_spit_22 : decode cX5_spit 22 = .ok (.aload_n 0, 1) := by decide +kernel
theorem dX5_spit_23 : decode cX5_spit 23 = .ok (.iconst 1, 1) := by decide +kernel
theorem dX5_spit_24 : decode cX5_spit 24 = .ok (.invokevirtual 103, 3) := by decide +kernel
theorem dX5_spit_27 : decode cX5_spit 27 = .ok (.ireturn, 1) := by decide +kernel
theorem dX5_feetOf_0 : decode cX5_feetOf 0 = .ok (.aload_n 0, 1) := by decide +kernel
theorem dX5_feetOf_1 : decode cX5_feetOf 1 = .ok (.iload_n 1, 1) := by decide +kernel
theorem dX5_feetOf_2 : decode cX5_feetOf 2 = .ok (.iconst 0, 1) := by decide +kernel
theorem dX5_feetOf_3 : decode cX5_feetOf 3 = .ok (.invokevirtual 132, 3) := by decide +kernel
theorem dX5_feetOf_6 : decode cX5_feetOf 6 = .ok (.ireturn, 1) := by decide +kernel
theorem dX5_glowAt_0 : decode cX5_glowAt 0 = .ok (.aload_n 0, 1) := by decide +kernel
theorem dX5_glowAt_1 : decode cX5_glowAt 1 = .ok (.iconst 0, 1) := by decide +kernel
theorem dX5_glowAt_2 : decode cX5_glowAt 2 = .ok (.putfield 32, 3) := by decide +kernel
theorem dX5_glowAt_5 : decode cX5_glowAt 5 = .ok (.aload_n 0, 1) := by decide +kernel
theorem dX5_glowAt_6 : decode cX5_glowAt 6 = .ok (.iload_n 1, 1) := by decide +kernel
theorem dX5_glowAt_7 : decode cX5_glowAt 7 = .ok (.invokevirtual 110, 3) := by decide +kernel
theorem dX5_glowAt_10 : decode cX5_glowAt 10 = .ok (.ifCond .eq 11, 3) := by decide +kernel
theorem dX5_glowAt_13 : decode cX5_glowAt 13 = .ok (.aload_n 0, 1) := by decide +kernel
theorem dX5_glowAt_14 : decode cX5_glowAt 14 = .ok (.iload_n 1, 1) := by decide +kernel
theorem dX5_glowAt_15 : decode cX5_glowAt 15 = .ok (.invokevirtual 77, 3) := by decide +kernel
theorem dX5_glowAt_18 : decode cX5_glowAt 18 = .ok (.goto 8, 3) := by decide +kernel
theorem dX5_glowAt_21 : decode cX5_glowAt 21 = .ok (.aload_n 0, 1) := by decide +kernel
theorem dX5_glowAt_22 : decode cX5_glowAt 22 = .ok (.iconst 1, 1) := by decide +kernel
theorem dX5_glowAt_23 : decode cX5_glowAt 23 = .ok (.invokevirtual 103, 3) := by decide +kernel
theorem dX5_glowAt_26 : decode cX5_glowAt 26 = .ok (.ireturn, 1) := by decide +kernel
theorem dX5_turnedEach_0 : decode cX5_turnedEach 0 = .ok (.aload_n 0, 1) := by decide +kernel
theorem dX5_turnedEach_1 : decode cX5_turnedEach 1 = .ok (.iload_n 1, 1) := by decide +kernel
theorem dX5_turnedEach_2 : decode cX5_turnedEach 2 = .ok (.iconst 4, 1) := by decide +kernel
theorem dX5_turnedEach_3 : decode cX5_turnedEach 3 = .ok (.invokevirtual 132, 3) := by decide +kernel
theorem dX5_turnedEach_6 : decode cX5_turnedEach 6 = .ok (.ireturn, 1) := by decide +kernel
theorem dX5_drippingsOf_0 : decode cX5_drippingsOf 0 = .ok (.aload_n 0, 1) := by decide +kernel
theorem dX5_drippingsOf_1 : decode cX5_drippingsOf 1 = .ok (.iload_n 1, 1) := by decide +kernel
theorem dX5_drippingsOf_2 : decode cX5_drippingsOf 2 = .ok (.iconst 1, 1) := by decide +kernel
theorem dX5_drippingsOf_3 : decode cX5_drippingsOf 3 = .ok (.invokevirtual 132, 3) := by decide +kernel
theorem dX5_drippingsOf_6 : decode cX5_drippingsOf 6 = .ok (.ireturn, 1) := by decide +kernel
theorem dX5_roastOn_0 : decode cX5_roastOn 0 = .ok (.aload_n 0, 1) := by decide +kernel
theorem dX5_roastOn_1 : decode cX5_roastOn 1 = .ok (.iconst 0, 1) := by decide +kernel
theorem dX5_roastOn_2 : decode cX5_roastOn 2 = .ok (.putfield 32, 3) := by decide +kernel
theorem dX5_roastOn_5 : decode cX5_roastOn 5 = .ok (.aload_n 0, 1) := by decide +kernel
theorem dX5_roastOn_6 : decode cX5_roastOn 6 = .ok (.iload_n 1, 1) := by decide +kernel
theorem dX5_roastOn_7 : decode cX5_roastOn 7 = .ok (.invokevirtual 110, 3) := by decide +kernel
theorem dX5_roastOn_10 : decode cX5_roastOn 10 = .ok (.ifCond .eq 14, 3) := by decide +kernel
theorem dX5_roastOn_13 : decode cX5_roastOn 13 = .ok (.aload_n 0, 1) := by decide +kernel
theorem dX5_roastOn_14 : decode cX5_roastOn 14 = .ok (.iload_n 1, 1) := by decide +kernel
theorem dX5_roastOn_15 : decode cX5_roastOn 15 = .ok (.iconst 2, 1) := by decide +kernel
theorem dX5_roastOn_16 : decode cX5_roastOn 16 = .ok (.invokevirtual 58, 3) := by decide +kernel
theorem dX5_roastOn_19 : decode cX5_roastOn 19 = .ok (.iconst 1, 1) := by decide +kernel
theorem dX5_roastOn_20 : decode cX5_roastOn 20 = .ok (.isub, 1) := by decide +kernel
theorem dX5_roastOn_21 : decode cX5_roastOn 21 = .ok (.goto 8, 3) := by decide +kernel
theorem dX5_roastOn_24 : decode cX5_roastOn 24 = .ok (.aload_n 0, 1) := by decide +kernel
theorem dX5_roastOn_25 : decode cX5_roastOn 25 = .ok (.iconst 1, 1) := by decide +kernel
theorem dX5_roastOn_26 : decode cX5_roastOn 26 = .ok (.invokevirtual 103, 3) := by decide +kernel
theorem dX5_roastOn_29 : decode cX5_roastOn 29 = .ok (.ireturn, 1) := by decide +kernel
theorem dX5_roasts_0 : decode cX5_roasts 0 = .ok (.aload_n 0, 1) := by decide +kernel
theorem dX5_roasts_1 : decode cX5_roasts 1 = .ok (.aload_n 0, 1) := by decide +kernel
theorem dX5_roasts_2 : decode cX5_roasts 2 = .ok (.getfield 45, 3) := by decide +kernel
theorem dX5_roasts_5 : decode cX5_roasts 5 = .ok (.invokevirtual 126, 3) := by decide +kernel
theorem dX5_roasts_8 : decode cX5_roasts 8 = .ok (.ireturn, 1) := by decide +kernel
theorem dX5_poundsOf_0 : decode cX5_poundsOf 0 = .ok (.aload_n 0, 1) := by decide +kernel
theorem dX5_poundsOf_1 : decode cX5_poundsOf 1 = .ok (.iconst 0, 1) := by decide +kernel
theorem dX5_poundsOf_2 : decode cX5_poundsOf 2 = .ok (.putfield 32, 3) := by decide +kernel
theorem dX5_poundsOf_5 : decode cX5_poundsOf 5 = .ok (.aload_n 0, 1) := by decide +kernel
theorem dX5_poundsOf_6 : decode cX5_poundsOf 6 = .ok (.iload_n 1, 1) := by decide +kernel
theorem dX5_poundsOf_7 : decode cX5_poundsOf 7 = .ok (.invokevirtual 135, 3) := by decide +kernel
theorem dX5_poundsOf_10 : decode cX5_poundsOf 10 = .ok (.ifCond .eq 12, 3) := by decide +kernel
theorem dX5_poundsOf_13 : decode cX5_poundsOf 13 = .ok (.aload_n 0, 1) := by decide +kernel
theorem dX5_poundsOf_14 : decode cX5_poundsOf 14 = .ok (.getfield 17, 3) := by decide +kernel
theorem dX5_poundsOf_17 : decode cX5_poundsOf 17 = .ok (.iload_n 1, 1) := by decide +kernel
theorem dX5_poundsOf_18 : decode cX5_poundsOf 18 = .ok (.iaload, 1) := by decide +kernel
theorem dX5_poundsOf_19 : decode cX5_poundsOf 19 = .ok (.goto 8, 3) := by decide +kernel
theorem dX5_poundsOf_22 : decode cX5_poundsOf 22 = .ok (.aload_n 0, 1) := by decide +kernel
theorem dX5_poundsOf_23 : decode cX5_poundsOf 23 = .ok (.iconst 1, 1) := by decide +kernel
theorem dX5_poundsOf_24 : decode cX5_poundsOf 24 = .ok (.invokevirtual 103, 3) := by decide +kernel
theorem dX5_poundsOf_27 : decode cX5_poundsOf 27 = .ok (.ireturn, 1) := by decide +kernel
theorem dX5_roast_0 : decode cX5_roast 0 = .ok (.aload_n 0, 1) := by decide +kernel
theorem dX5_roast_1 : decode cX5_roast 1 = .ok (.iconst 0, 1) := by decide +kernel
theorem dX5_roast_2 : decode cX5_roast 2 = .ok (.putfield 32, 3) := by decide +kernel
theorem dX5_roast_5 : decode cX5_roast 5 = .ok (.aload_n 0, 1) := by decide +kernel
theorem dX5_roast_6 : decode cX5_roast 6 = .ok (.iload_n 1, 1) := by decide +kernel
theorem dX5_roast_7 : decode cX5_roast 7 = .ok (.invokevirtual 135, 3) := by decide +kernel
theorem dX5_roast_10 : decode cX5_roast 10 = .ok (.ifCond .eq 12, 3) := by decide +kernel
theorem dX5_roast_13 : decode cX5_roast 13 = .ok (.aload_n 0, 1) := by decide +kernel
theorem dX5_roast_14 : decode cX5_roast 14 = .ok (.iload_n 1, 1) := by decide +kernel
theorem dX5_roast_15 : decode cX5_roast 15 = .ok (.iload_n 2, 1) := by decide +kernel
theorem dX5_roast_16 : decode cX5_roast 16 = .ok (.invokevirtual 61, 3) := by decide +kernel
theorem dX5_roast_19 : decode cX5_roast 19 = .ok (.goto 8, 3) := by decide +kernel
theorem dX5_roast_22 : decode cX5_roast 22 = .ok (.aload_n 0, 1) := by decide +kernel
theorem dX5_roast_23 : decode cX5_roast 23 = .ok (.iconst 1, 1) := by decide +kernel
theorem dX5_roast_24 : decode cX5_roast 24 = .ok (.invokevirtual 103, 3) := by decide +kernel
theorem dX5_roast_27 : decode cX5_roast 27 = .ok (.ireturn, 1) := by decide +kernel
theorem dX5_spitOf_0 : decode cX5_spitOf 0 = .ok (.aload_n 0, 1) := by decide +kernel
theorem dX5_spitOf_1 : decode cX5_spitOf 1 = .ok (.iconst 0, 1) := by decide +kernel
theorem dX5_spitOf_2 : decode cX5_spitOf 2 = .ok (.putfield 32, 3) := by decide +kernel
theorem dX5_spitOf_5 : decode cX5_spitOf 5 = .ok (.aload_n 0, 1) := by decide +kernel
theorem dX5_spitOf_6 : decode cX5_spitOf 6 = .ok (.iload_n 1, 1) := by decide +kernel
theorem dX5_spitOf_7 : decode cX5_spitOf 7 = .ok (.invokevirtual 135, 3) := by decide +kernel
theorem dX5_spitOf_10 : decode cX5_spitOf 10 = .ok (.ifCond .eq 14, 3) := by decide +kernel
theorem dX5_spitOf_13 : decode cX5_spitOf 13 = .ok (.aload_n 0, 1) := by decide +kernel
theorem dX5_spitOf_14 : decode cX5_spitOf 14 = .ok (.iload_n 1, 1) := by decide +kernel
theorem dX5_spitOf_15 : decode cX5_spitOf 15 = .ok (.iconst 0, 1) := by decide +kernel
theorem dX5_spitOf_16 : decode cX5_spitOf 16 = .ok (.invokevirtual 61, 3) := by decide +kernel
theorem dX5_spitOf_19 : decode cX5_spitOf 19 = .ok (.iconst 1, 1) := by decide +kernel
theorem dX5_spitOf_20 : decode cX5_spitOf 20 = .ok (.isub, 1) := by decide +kernel
theorem dX5_spitOf_21 : decode cX5_spitOf 21 = .ok (.goto 8, 3) := by decide +kernel
theorem dX5_spitOf_24 : decode cX5_spitOf 24 = .ok (.aload_n 0, 1) := by decide +kernel
theorem dX5_spitOf_25 : decode cX5_spitOf 25 = .ok (.iconst 1, 1) := by decide +kernel
theorem dX5_spitOf_26 : decode cX5_spitOf 26 = .ok (.invokevirtual 103, 3) := by decide +kernel
theorem dX5_spitOf_29 : decode cX5_spitOf 29 = .ok (.ireturn, 1) := by decide +kernel
theorem dX5_sideToFire_0 : decode cX5_sideToFire 0 = .ok (.aload_n 0, 1) := by decide +kernel
theorem dX5_sideToFire_1 : decode cX5_sideToFire 1 = .ok (.iload_n 1, 1) := by decide +kernel
theorem dX5_sideToFire_2 : decode cX5_sideToFire 2 = .ok (.iconst 1, 1) := by decide +kernel
theorem dX5_sideToFire_3 : decode cX5_sideToFire 3 = .ok (.invokevirtual 138, 3) := by decide +kernel
theorem dX5_sideToFire_6 : decode cX5_sideToFire 6 = .ok (.ireturn, 1) := by decide +kernel
theorem dX5_brownOf_0 : decode cX5_brownOf 0 = .ok (.aload_n 0, 1) := by decide +kernel
theorem dX5_brownOf_1 : decode cX5_brownOf 1 = .ok (.iconst 0, 1) := by decide +kernel
theorem dX5_brownOf_2 : decode cX5_brownOf 2 = .ok (.putfield 32, 3) := by decide +kernel
theorem dX5_brownOf_5 : decode cX5_brownOf 5 = .ok (.aload_n 0, 1) := by decide +kernel
theorem dX5_brownOf_6 : decode cX5_brownOf 6 = .ok (.iload_n 1, 1) := by decide +kernel
theorem dX5_brownOf_7 : decode cX5_brownOf 7 = .ok (.invokevirtual 135, 3) := by decide +kernel
theorem dX5_brownOf_10 : decode cX5_brownOf 10 = .ok (.ifCond .eq 23, 3) := by decide +kernel
theorem dX5_brownOf_13 : decode cX5_brownOf 13 = .ok (.iload_n 2, 1) := by decide +kernel
theorem dX5_brownOf_14 : decode cX5_brownOf 14 = .ok (.iconst 0, 1) := by decide +kernel
theorem dX5_brownOf_15 : decode cX5_brownOf 15 = .ok (.iconst 3, 1) := by decide +kernel
theorem dX5_brownOf_16 : decode cX5_brownOf 16 = .ok (.invokestatic 38, 3) := by decide +kernel
theorem dX5_brownOf_19 : decode cX5_brownOf 19 = .ok (.ifCond .eq 14, 3) := by decide +kernel
theorem dX5_brownOf_22 : decode cX5_brownOf 22 = .ok (.aload_n 0, 1) := by decide +kernel
theorem dX5_brownOf_23 : decode cX5_brownOf 23 = .ok (.iload_n 1, 1) := by decide +kernel
theorem dX5_brownOf_24 : decode cX5_brownOf 24 = .ok (.iconst 4, 1) := by decide +kernel
theorem dX5_brownOf_25 : decode cX5_brownOf 25 = .ok (.iload_n 2, 1) := by decide +kernel
theorem dX5_brownOf_26 : decode cX5_brownOf 26 = .ok (.iadd, 1) := by decide +kernel
theorem dX5_brownOf_27 : decode cX5_brownOf 27 = .ok (.invokevirtual 61, 3) := by decide +kernel
theorem dX5_brownOf_30 : decode cX5_brownOf 30 = .ok (.goto 8, 3) := by decide +kernel
theorem dX5_brownOf_33 : decode cX5_brownOf 33 = .ok (.aload_n 0, 1) := by decide +kernel
theorem dX5_brownOf_34 : decode cX5_brownOf 34 = .ok (.iconst 1, 1) := by decide +kernel
theorem dX5_brownOf_35 : decode cX5_brownOf 35 = .ok (.invokevirtual 103, 3) := by decide +kernel
theorem dX5_brownOf_38 : decode cX5_brownOf 38 = .ok (.ireturn, 1) := by decide +kernel
theorem dX5_fatOf_0 : decode cX5_fatOf 0 = .ok (.aload_n 0, 1) := by decide +kernel
theorem dX5_fatOf_1 : decode cX5_fatOf 1 = .ok (.iload_n 1, 1) := by decide +kernel
theorem dX5_fatOf_2 : decode cX5_fatOf 2 = .ok (.iconst 2, 1) := by decide +kernel
theorem dX5_fatOf_3 : decode cX5_fatOf 3 = .ok (.invokevirtual 138, 3) := by decide +kernel
theorem dX5_fatOf_6 : decode cX5_fatOf 6 = .ok (.ireturn, 1) := by decide +kernel
theorem dX5_wetFor_0 : decode cX5_wetFor 0 = .ok (.aload_n 0, 1) := by decide +kernel
theorem dX5_wetFor_1 : decode cX5_wetFor 1 = .ok (.iload_n 1, 1) := by decide +kernel
theorem dX5_wetFor_2 : decode cX5_wetFor 2 = .ok (.iconst 3, 1) := by decide +kernel
theorem dX5_wetFor_3 : decode cX5_wetFor 3 = .ok (.invokevirtual 138, 3) := by decide +kernel
theorem dX5_wetFor_6 : decode cX5_wetFor 6 = .ok (.ireturn, 1) := by decide +kernel
theorem dX5_isDone_0 : decode cX5_isDone 0 = .ok (.aload_n 0, 1) := by decide +kernel
theorem dX5_isDone_1 : decode cX5_isDone 1 = .ok (.aload_n 0, 1) := by decide +kernel
theorem dX5_isDone_2 : decode cX5_isDone 2 = .ok (.iload_n 1, 1) := by decide +kernel
theorem dX5_isDone_3 : decode cX5_isDone 3 = .ok (.invokevirtual 135, 3) := by decide +kernel
theorem dX5_isDone_6 : decode cX5_isDone 6 = .ok (.ifCond .eq 7, 3) := by decide +kernel
theorem dX5_isDone_9 : decode cX5_isDone 9 = .ok (.iconst 0, 1) := by decide +kernel
theorem dX5_isDone_10 : decode cX5_isDone 10 = .ok (.goto 4, 3) := by decide +kernel
theorem dX5_isDone_13 : decode cX5_isDone 13 = .ok (.iconst 1, 1) := by decide +kernel
theorem dX5_isDone_14 : decode cX5_isDone 14 = .ok (.putfield 32, 3) := by decide +kernel
theorem dX5_isDone_17 : decode cX5_isDone 17 = .ok (.aload_n 0, 1) := by decide +kernel
theorem dX5_isDone_18 : decode cX5_isDone 18 = .ok (.getfield 32, 3) := by decide +kernel
theorem dX5_isDone_21 : decode cX5_isDone 21 = .ok (.ifCond .ne 15, 3) := by decide +kernel
theorem dX5_isDone_24 : decode cX5_isDone 24 = .ok (.aload_n 0, 1) := by decide +kernel
theorem dX5_isDone_25 : decode cX5_isDone 25 = .ok (.iload_n 1, 1) := by decide +kernel
theorem dX5_isDone_26 : decode cX5_isDone 26 = .ok (.invokevirtual 141, 3) := by decide +kernel
theorem dX5_isDone_29 : decode cX5_isDone 29 = .ok (.ifCond .eq 7, 3) := by decide +kernel
theorem dX5_isDone_32 : decode cX5_isDone 32 = .ok (.iconst 1, 1) := by decide +kernel
theorem dX5_isDone_33 : decode cX5_isDone 33 = .ok (.goto 4, 3) := by decide +kernel
theorem dX5_isDone_36 : decode cX5_isDone 36 = .ok (.iconst 0, 1) := by decide +kernel
theorem dX5_isDone_37 : decode cX5_isDone 37 = .ok (.ireturn, 1) := by decide +kernel
theorem dX5_isBurnt_0 : decode cX5_isBurnt 0 = .ok (.aload_n 0, 1) := by decide +kernel
theorem dX5_isBurnt_1 : decode cX5_isBurnt 1 = .ok (.aload_n 0, 1) := by decide +kernel
theorem dX5_isBurnt_2 : decode cX5_isBurnt 2 = .ok (.iload_n 1, 1) := by decide +kernel
theorem dX5_isBurnt_3 : decode cX5_isBurnt 3 = .ok (.invokevirtual 135, 3) := by decide +kernel
theorem dX5_isBurnt_6 : decode cX5_isBurnt 6 = .ok (.ifCond .eq 7, 3) := by decide +kernel
theorem dX5_isBurnt_9 : decode cX5_isBurnt 9 = .ok (.iconst 0, 1) := by decide +kernel
theorem dX5_isBurnt_10 : decode cX5_isBurnt 10 = .ok (.goto 4, 3) := by decide +kernel
theorem dX5_isBurnt_13 : decode cX5_isBurnt 13 = .ok (.iconst 1, 1) := by decide +kernel
theorem dX5_isBurnt_14 : decode cX5_isBurnt 14 = .ok (.putfield 32, 3) := by decide +kernel
theorem dX5_isBurnt_17 : decode cX5_isBurnt 17 = .ok (.aload_n 0, 1) := by decide +kernel
theorem dX5_isBurnt_18 : decode cX5_isBurnt 18 = .ok (.getfield 32, 3) := by decide +kernel
theorem dX5_isBurnt_21 : decode cX5_isBurnt 21 = .ok (.ifCond .ne 15, 3) := by decide +kernel
theorem dX5_isBurnt_24 : decode cX5_isBurnt 24 = .ok (.aload_n 0, 1) := by decide +kernel
theorem dX5_isBurnt_25 : decode cX5_isBurnt 25 = .ok (.iload_n 1, 1) := by decide +kernel
theorem dX5_isBurnt_26 : decode cX5_isBurnt 26 = .ok (.invokevirtual 144, 3) := by decide +kernel
theorem dX5_isBurnt_29 : decode cX5_isBurnt 29 = .ok (.ifCond .eq 7, 3) := by decide +kernel
theorem dX5_isBurnt_32 : decode cX5_isBurnt 32 = .ok (.iconst 1, 1) := by decide +kernel
theorem dX5_isBurnt_33 : decode cX5_isBurnt 33 = .ok (.goto 4, 3) := by decide +kernel
theorem dX5_isBurnt_36 : decode cX5_isBurnt 36 = .ok (.iconst 0, 1) := by decide +kernel
theorem dX5_isBurnt_37 : decode cX5_isBurnt 37 = .ok (.ireturn, 1) := by decide +kernel
theorem dX5_until_0 : decode cX5_until 0 = .ok (.iconst 0, 1) := by decide +kernel
theorem dX5_until_1 : decode cX5_until 1 = .ok (.istore_n 3, 1) := by decide +kernel
theorem dX5_until_2 : decode cX5_until 2 = .ok (.iload_n 3, 1) := by decide +kernel
theorem dX5_until_3 : decode cX5_until 3 = .ok (.sipush 200, 3) := by decide +kernel
theorem dX5_until_6 : decode cX5_until 6 = .ok (.if_icmp .gt 37, 3) := by decide +kernel
theorem dX5_until_9 : decode cX5_until 9 = .ok (.iload_n 2, 1) := by decide +kernel
theorem dX5_until_10 : decode cX5_until 10 = .ok (.ifCond .eq 14, 3) := by decide +kernel
theorem dX5_until_13 : decode cX5_until 13 = .ok (.aload_n 0, 1) := by decide +kernel
theorem dX5_until_14 : decode cX5_until 14 = .ok (.iload_n 1, 1) := by decide +kernel
theorem dX5_until_15 : decode cX5_until 15 = .ok (.invokevirtual 144, 3) := by decide +kernel
theorem dX5_until_18 : decode cX5_until 18 = .ok (.ifCond .eq 14, 3) := by decide +kernel
theorem dX5_until_21 : decode cX5_until 21 = .ok (.goto 22, 3) := by decide +kernel
theorem dX5_until_24 : decode cX5_until 24 = .ok (.aload_n 0, 1) := by decide +kernel
theorem dX5_until_25 : decode cX5_until 25 = .ok (.iload_n 1, 1) := by decide +kernel
theorem dX5_until_26 : decode cX5_until 26 = .ok (.invokevirtual 141, 3) := by decide +kernel
theorem dX5_until_29 : decode cX5_until 29 = .ok (.ifCond .ne 14, 3) := by decide +kernel
theorem dX5_until_32 : decode cX5_until 32 = .ok (.aload_n 0, 1) := by decide +kernel
theorem dX5_until_33 : decode cX5_until 33 = .ok (.invokevirtual 122, 3) := by decide +kernel
theorem dX5_until_36 : decode cX5_until 36 = .ok (.pop, 1) := by decide +kernel
theorem dX5_until_37 : decode cX5_until 37 = .ok (.iinc 3 1, 3) := by decide +kernel
theorem dX5_until_40 : decode cX5_until 40 = .ok (.goto (-38), 3) := by decide +kernel
theorem dX5_until_43 : decode cX5_until 43 = .ok (.aload_n 0, 1) := by decide +kernel
theorem dX5_until_44 : decode cX5_until 44 = .ok (.invokevirtual 147, 3) := by decide +kernel
theorem dX5_until_47 : decode cX5_until 47 = .ok (.iload_n 3, 1) := by decide +kernel
theorem dX5_until_48 : decode cX5_until 48 = .ok (.sipush 200, 3) := by decide +kernel
theorem dX5_until_51 : decode cX5_until 51 = .ok (.if_icmp .le 7, 3) := by decide +kernel
theorem dX5_until_54 : decode cX5_until 54 = .ok (.iconst (-1), 1) := by decide +kernel
theorem dX5_until_55 : decode cX5_until 55 = .ok (.goto 4, 3) := by decide +kernel
theorem dX5_until_58 : decode cX5_until 58 = .ok (.iload_n 3, 1) := by decide +kernel
theorem dX5_until_59 : decode cX5_until 59 = .ok (.ireturn, 1) := by decide +kernel
theorem dX5_minutesUntilDone_0 : decode cX5_minutesUntilDone 0 = .ok (.aload_n 0, 1) := by decide +kernel
theorem dX5_minutesUntilDone_1 : decode cX5_minutesUntilDone 1 = .ok (.iconst 0, 1) := by decide +kernel
theorem dX5_minutesUntilDone_2 : decode cX5_minutesUntilDone 2 = .ok (.putfield 32, 3) := by decide +kernel
theorem dX5_minutesUntilDone_5 : decode cX5_minutesUntilDone 5 = .ok (.aload_n 0, 1) := by decide +kernel
theorem dX5_minutesUntilDone_6 : decode cX5_minutesUntilDone 6 = .ok (.iload_n 1, 1) := by decide +kernel
theorem dX5_minutesUntilDone_7 : decode cX5_minutesUntilDone 7 = .ok (.invokevirtual 135, 3) := by decide +kernel
theorem dX5_minutesUntilDone_10 : decode cX5_minutesUntilDone 10 = .ok (.ifCond .ne 9, 3) := by decide +kernel
theorem dX5_minutesUntilDone_13 : decode cX5_minutesUntilDone 13 = .ok (.aload_n 0, 1) := by decide +kernel
theorem dX5_minutesUntilDone_14 : decode cX5_minutesUntilDone 14 = .ok (.iconst 1, 1) := by decide +kernel
theorem dX5_minutesUntilDone_15 : decode cX5_minutesUntilDone 15 = .ok (.invokevirtual 103, 3) := by decide +kernel
theorem dX5_minutesUntilDone_18 : decode cX5_minutesUntilDone 18 = .ok (.ireturn, 1) := by decide +kernel
theorem dX5_minutesUntilDone_19 : decode cX5_minutesUntilDone 19 = .ok (.aload_n 0, 1) := by decide +kernel
theorem dX5_minutesUntilDone_20 : decode cX5_minutesUntilDone 20 = .ok (.invokevirtual 150, 3) := by decide +kernel
theorem dX5_minutesUntilDone_23 : decode cX5_minutesUntilDone 23 = .ok (.aload_n 0, 1) := by decide +kernel
theorem dX5_minutesUntilDone_24 : decode cX5_minutesUntilDone 24 = .ok (.iload_n 1, 1) := by decide +kernel
theorem dX5_minutesUntilDone_25 : decode cX5_minutesUntilDone 25 = .ok (.iconst 0, 1) := by decide +kernel
theorem dX5_minutesUntilDone_26 : decode cX5_minutesUntilDone 26 = .ok (.invokevirtual 153, 3) := by decide +kernel
theorem dX5_minutesUntilDone_29 : decode cX5_minutesUntilDone 29 = .ok (.ireturn, 1) := by decide +kernel
theorem dX5_minutesUntilBurnt_0 : decode cX5_minutesUntilBurnt 0 = .ok (.aload_n 0, 1) := by decide +kernel
theorem dX5_minutesUntilBurnt_1 : decode cX5_minutesUntilBurnt 1 = .ok (.iconst 0, 1) := by decide +kernel
theorem dX5_minutesUntilBurnt_2 : decode cX5_minutesUntilBurnt 2 = .ok (.putfield 32, 3) := by decide +kernel
theorem dX5_minutesUntilBurnt_5 : decode cX5_minutesUntilBurnt 5 = .ok (.aload_n 0, 1) := by decide +kernel
theorem dX5_minutesUntilBurnt_6 : decode cX5_minutesUntilBurnt 6 = .ok (.iload_n 1, 1) := by decide +kernel
theorem dX5_minutesUntilBurnt_7 : decode cX5_minutesUntilBurnt 7 = .ok (.invokevirtual 135, 3) := by decide +kernel
theorem dX5_minutesUntilBurnt_10 : decode cX5_minutesUntilBurnt 10 = .ok (.ifCond .ne 9, 3) := by decide +kernel
theorem dX5_minutesUntilBurnt_13 : decode cX5_minutesUntilBurnt 13 = .ok (.aload_n 0, 1) := by decide +kernel
theorem dX5_minutesUntilBurnt_14 : decode cX5_minutesUntilBurnt 14 = .ok (.iconst 1, 1) := by decide +kernel
theorem dX5_minutesUntilBurnt_15 : decode cX5_minutesUntilBurnt 15 = .ok (.invokevirtual 103, 3) := by decide +kernel
theorem dX5_minutesUntilBurnt_18 : decode cX5_minutesUntilBurnt 18 = .ok (.ireturn, 1) := by decide +kernel
theorem dX5_minutesUntilBurnt_19 : decode cX5_minutesUntilBurnt 19 = .ok (.aload_n 0, 1) := by decide +kernel
theorem dX5_minutesUntilBurnt_20 : decode cX5_minutesUntilBurnt 20 = .ok (.invokevirtual 150, 3) := by decide +kernel
theorem dX5_minutesUntilBurnt_23 : decode cX5_minutesUntilBurnt 23 = .ok (.aload_n 0, 1) := by decide +kernel
theorem dX5_minutesUntilBurnt_24 : decode cX5_minutesUntilBurnt 24 = .ok (.iload_n 1, 1) := by decide +kernel
theorem dX5_minutesUntilBurnt_25 : decode cX5_minutesUntilBurnt 25 = .ok (.iconst 1, 1) := by decide +kernel
theorem dX5_minutesUntilBurnt_26 : decode cX5_minutesUntilBurnt 26 = .ok (.invokevirtual 153, 3) := by decide +kernel
theorem dX5_minutesUntilBurnt_29 : decode cX5_minutesUntilBurnt 29 = .ok (.ireturn, 1) := by decide +kernel
theorem dX5_doneAtFeast_0 : decode cX5_doneAtFeast 0 = .ok (.aload_n 0, 1) := by decide +kernel
theorem dX5_doneAtFeast_1 : decode cX5_doneAtFeast 1 = .ok (.iconst 0, 1) := by decide +kernel
theorem dX5_doneAtFeast_2 : decode cX5_doneAtFeast 2 = .ok (.putfield 32, 3) := by decide +kernel
theorem dX5_doneAtFeast_5 : decode cX5_doneAtFeast 5 = .ok (.aload_n 0, 1) := by decide +kernel
theorem dX5_doneAtFeast_6 : decode cX5_doneAtFeast 6 = .ok (.getfield 7, 3) := by decide +kernel
theorem dX5_doneAtFeast_9 : decode cX5_doneAtFeast 9 = .ok (.aload_n 0, 1) := by decide +kernel
theorem dX5_doneAtFeast_10 : decode cX5_doneAtFeast 10 = .ok (.getfield 26, 3) := by decide +kernel
theorem dX5_doneAtFeast_13 : decode cX5_doneAtFeast 13 = .ok (.iconst 0, 1) := by decide +kernel
theorem dX5_doneAtFeast_14 : decode cX5_doneAtFeast 14 = .ok (.iaload, 1) := by decide +kernel
theorem dX5_doneAtFeast_15 : decode cX5_doneAtFeast 15 = .ok (.isub, 1) := by decide +kernel
theorem dX5_doneAtFeast_16 : decode cX5_doneAtFeast 16 = .ok (.iconst 0, 1) := by decide +kernel
theorem dX5_doneAtFeast_17 : decode cX5_doneAtFeast 17 = .ok (.sipush 200, 3) := by decide +kernel
theorem dX5_doneAtFeast_20 : decode cX5_doneAtFeast 20 = .ok (.invokestatic 38, 3) := by decide +kernel
theorem dX5_doneAtFeast_23 : decode cX5_doneAtFeast 23 = .ok (.ifCond .ne 5, 3) := by decide +kernel
theorem dX5_doneAtFeast_26 : decode cX5_doneAtFeast 26 = .ok (.iconst (-1), 1) := by decide +kernel
theorem dX5_doneAtFeast_27 : decode cX5_doneAtFeast 27 = .ok (.ireturn, 1) := by decide +kernel
theorem dX5_doneAtFeast_28 : decode cX5_doneAtFeast 28 = .ok (.aload_n 0, 1) := by decide +kernel
theorem dX5_doneAtFeast_29 : decode cX5_doneAtFeast 29 = .ok (.invokevirtual 150, 3) := by decide +kernel
theorem dX5_doneAtFeast_32 : decode cX5_doneAtFeast 32 = .ok (.aload_n 0, 1) := by decide +kernel
theorem dX5_doneAtFeast_33 : decode cX5_doneAtFeast 33 = .ok (.getfield 26, 3) := by decide +kernel
theorem dX5_doneAtFeast_36 : decode cX5_doneAtFeast 36 = .ok (.iconst 0, 1) := by decide +kernel
theorem dX5_doneAtFeast_37 : decode cX5_doneAtFeast 37 = .ok (.iaload, 1) := by decide +kernel
theorem dX5_doneAtFeast_38 : decode cX5_doneAtFeast 38 = .ok (.aload_n 0, 1) := by decide +kernel
theorem dX5_doneAtFeast_39 : decode cX5_doneAtFeast 39 = .ok (.getfield 7, 3) := by decide +kernel
theorem dX5_doneAtFeast_42 : decode cX5_doneAtFeast 42 = .ok (.if_icmp .ge 11, 3) := by decide +kernel
theorem dX5_doneAtFeast_45 : decode cX5_doneAtFeast 45 = .ok (.aload_n 0, 1) := by decide +kernel
theorem dX5_doneAtFeast_46 : decode cX5_doneAtFeast 46 = .ok (.invokevirtual 122, 3) := by decide +kernel
theorem dX5_doneAtFeast_49 : decode cX5_doneAtFeast 49 = .ok (.pop, 1) := by decide +kernel
theorem dX5_doneAtFeast_50 : decode cX5_doneAtFeast 50 = .ok (.goto (-18), 3) := by decide +kernel
theorem dX5_doneAtFeast_53 : decode cX5_doneAtFeast 53 = .ok (.iconst 0, 1) := by decide +kernel
theorem dX5_doneAtFeast_54 : decode cX5_doneAtFeast 54 = .ok (.istore_n 1, 1) := by decide +kernel
theorem dX5_doneAtFeast_55 : decode cX5_doneAtFeast 55 = .ok (.iconst 0, 1) := by decide +kernel
theorem dX5_doneAtFeast_56 : decode cX5_doneAtFeast 56 = .ok (.istore_n 2, 1) := by decide +kernel
theorem dX5_doneAtFeast_57 : decode cX5_doneAtFeast 57 = .ok (.iload_n 2, 1) := by decide +kernel
theorem dX5_doneAtFeast_58 : decode cX5_doneAtFeast 58 = .ok (.aload_n 0, 1) := by decide +kernel
theorem dX5_doneAtFeast_59 : decode cX5_doneAtFeast 59 = .ok (.getfield 45, 3) := by decide +kernel
theorem dX5_doneAtFeast_62 : decode cX5_doneAtFeast 62 = .ok (.if_icmp .ge 25, 3) := by decide +kernel
theorem dX5_doneAtFeast_65 : decode cX5_doneAtFeast 65 = .ok (.iload_n 1, 1) := by decide +kernel
theorem dX5_doneAtFeast_66 : decode cX5_doneAtFeast 66 = .ok (.aload_n 0, 1) := by decide +kernel
theorem dX5_doneAtFeast_67 : decode cX5_doneAtFeast 67 = .ok (.iload_n 2, 1) := by decide +kernel
theorem dX5_doneAtFeast_68 : decode cX5_doneAtFeast 68 = .ok (.invokevirtual 141, 3) := by decide +kernel
theorem dX5_doneAtFeast_71 : decode cX5_doneAtFeast 71 = .ok (.ifCond .eq 7, 3) := by decide +kernel
theorem dX5_doneAtFeast_74 : decode cX5_doneAtFeast 74 = .ok (.iconst 1, 1) := by decide +kernel
theorem dX5_doneAtFeast_75 : decode cX5_doneAtFeast 75 = .ok (.goto 4, 3) := by decide +kernel
theorem dX5_doneAtFeast_78 : decode cX5_doneAtFeast 78 = .ok (.iconst 0, 1) := by decide +kernel
theorem dX5_doneAtFeast_79 : decode cX5_doneAtFeast 79 = .ok (.iadd, 1) := by decide +kernel
theorem dX5_doneAtFeast_80 : decode cX5_doneAtFeast 80 = .ok (.istore_n 1, 1) := by decide +kernel
theorem dX5_doneAtFeast_81 : decode cX5_doneAtFeast 81 = .ok (.iinc 2 1, 3) := by decide +kernel
theorem dX5_doneAtFeast_84 : decode cX5_doneAtFeast 84 = .ok (.goto (-27), 3) := by decide +kernel
theorem dX5_doneAtFeast_87 : decode cX5_doneAtFeast 87 = .ok (.aload_n 0, 1) := by decide +kernel
theorem dX5_doneAtFeast_88 : decode cX5_doneAtFeast 88 = .ok (.invokevirtual 147, 3) := by decide +kernel
theorem dX5_doneAtFeast_91 : decode cX5_doneAtFeast 91 = .ok (.iload_n 1, 1) := by decide +kernel
theorem dX5_doneAtFeast_92 : decode cX5_doneAtFeast 92 = .ok (.ireturn, 1) := by decide +kernel
theorem dX5_bestEach_0 : decode cX5_bestEach 0 = .ok (.aload_n 0, 1) := by decide +kernel
theorem dX5_bestEach_1 : decode cX5_bestEach 1 = .ok (.iconst 0, 1) := by decide +kernel
theorem dX5_bestEach_2 : decode cX5_bestEach 2 = .ok (.putfield 32, 3) := by decide +kernel
theorem dX5_bestEach_5 : decode cX5_bestEach 5 = .ok (.aload_n 0, 1) := by decide +kernel
theorem dX5_bestEach_6 : decode cX5_bestEach 6 = .ok (.iload_n 1, 1) := by decide +kernel
theorem dX5_bestEach_7 : decode cX5_bestEach 7 = .ok (.invokevirtual 110, 3) := by decide +kernel
theorem dX5_bestEach_10 : decode cX5_bestEach 10 = .ok (.ifCond .ne 9, 3) := by decide +kernel
theorem dX5_bestEach_13 : decode cX5_bestEach 13 = .ok (.aload_n 0, 1) := by decide +kernel
theorem dX5_bestEach_14 : decode cX5_bestEach 14 = .ok (.iconst 1, 1) := by decide +kernel
theorem dX5_bestEach_15 : decode cX5_bestEach 15 = .ok (.invokevirtual 103, 3) := by decide +kernel
theorem dX5_bestEach_18 : decode cX5_bestEach 18 = .ok (.ireturn, 1) := by decide +kernel
theorem dX5_bestEach_19 : decode cX5_bestEach 19 = .ok (.aload_n 0, 1) := by decide +kernel
theorem dX5_bestEach_20 : decode cX5_bestEach 20 = .ok (.iload_n 1, 1) := by decide +kernel
theorem dX5_bestEach_21 : decode cX5_bestEach 21 = .ok (.iconst 2, 1) := by decide +kernel
theorem dX5_bestEach_22 : decode cX5_bestEach 22 = .ok (.invokevirtual 58, 3) := by decide +kernel
theorem dX5_bestEach_25 : decode cX5_bestEach 25 = .ok (.ifCond .ne 5, 3) := by decide +kernel
theorem dX5_bestEach_28 : decode cX5_bestEach 28 = .ok (.iconst (-1), 1) := by decide +kernel
theorem dX5_bestEach_29 : decode cX5_bestEach 29 = .ok (.ireturn, 1) := by decide +kernel
theorem dX5_bestEach_30 : decode cX5_bestEach 30 = .ok (.iconst (-1), 1) := by decide +kernel
theorem dX5_bestEach_31 : decode cX5_bestEach 31 = .ok (.istore_n 2, 1) := by decide +kernel
theorem dX5_bestEach_32 : decode cX5_bestEach 32 = .ok (.sipush 201, 3) := by decide +kernel
theorem dX5_bestEach_35 : decode cX5_bestEach 35 = .ok (.istore_n 3, 1) := by decide +kernel
theorem dX5_bestEach_36 : decode cX5_bestEach 36 = .ok (.aload_n 0, 1) := by decide +kernel
theorem dX5_bestEach_37 : decode cX5_bestEach 37 = .ok (.invokevirtual 150, 3) := by decide +kernel
theorem dX5_bestEach_40 : decode cX5_bestEach 40 = .ok (.iconst 1, 1) := by decide +kernel
theorem dX5_bestEach_41 : decode cX5_bestEach 41 = .ok (.istore 4, 2) := by decide +kernel
theorem dX5_bestEach_43 : decode cX5_bestEach 43 = .ok (.iload 4, 2) := by decide +kernel
theorem dX5_bestEach_45 : decode cX5_bestEach 45 = .ok (.bipush 9, 2) := by decide +kernel
theorem dX5_bestEach_47 : decode cX5_bestEach 47 = .ok (.if_icmp .gt 52, 3) := by decide +kernel
theorem dX5_bestEach_50 : decode cX5_bestEach 50 = .ok (.aload_n 0, 1) := by decide +kernel
theorem dX5_bestEach_51 : decode cX5_bestEach 51 = .ok (.iload_n 1, 1) := by decide +kernel
theorem dX5_bestEach_52 : decode cX5_bestEach 52 = .ok (.iload 4, 2) := by decide +kernel
theorem dX5_bestEach_54 : decode cX5_bestEach 54 = .ok (.invokevirtual 113, 3) := by decide +kernel
theorem dX5_bestEach_57 : decode cX5_bestEach 57 = .ok (.aload_n 0, 1) := by decide +kernel
theorem dX5_bestEach_58 : decode cX5_bestEach 58 = .ok (.aload_n 0, 1) := by decide +kernel
theorem dX5_bestEach_59 : decode cX5_bestEach 59 = .ok (.iload_n 1, 1) := by decide +kernel
theorem dX5_bestEach_60 : decode cX5_bestEach 60 = .ok (.iconst 2, 1) := by decide +kernel
theorem dX5_bestEach_61 : decode cX5_bestEach 61 = .ok (.invokevirtual 58, 3) := by decide +kernel
theorem dX5_bestEach_64 : decode cX5_bestEach 64 = .ok (.iconst 1, 1) := by decide +kernel
theorem dX5_bestEach_65 : decode cX5_bestEach 65 = .ok (.isub, 1) := by decide +kernel
theorem dX5_bestEach_66 : decode cX5_bestEach 66 = .ok (.iconst 0, 1) := by decide +kernel
theorem dX5_bestEach_67 : decode cX5_bestEach 67 = .ok (.invokevirtual 153, 3) := by decide +kernel
theorem dX5_bestEach_70 : decode cX5_bestEach 70 = .ok (.istore 5, 2) := by decide +kernel
theorem dX5_bestEach_72 : decode cX5_bestEach 72 = .ok (.iload 5, 2) := by decide +kernel
theorem dX5_bestEach_74 : decode cX5_bestEach 74 = .ok (.iconst (-1), 1) := by decide +kernel
theorem dX5_bestEach_75 : decode cX5_bestEach 75 = .ok (.if_icmp .eq 18, 3) := by decide +kernel
theorem dX5_bestEach_78 : decode cX5_bestEach 78 = .ok (.iload 5, 2) := by decide +kernel
theorem dX5_bestEach_80 : decode cX5_bestEach 80 = .ok (.iload_n 3, 1) := by decide +kernel
theorem dX5_bestEach_81 : decode cX5_bestEach 81 = .ok (.if_icmp .lt 6, 3) := by decide +kernel
theorem dX5_bestEach_84 : decode cX5_bestEach 84 = .ok (.goto 9, 3) := by decide +kernel
theorem dX5_bestEach_87 : decode cX5_bestEach 87 = .ok (.iload 4, 2) := by decide +kernel
theorem dX5_bestEach_89 : decode cX5_bestEach 89 = .ok (.istore_n 2, 1) := by decide +kernel
theorem dX5_bestEach_90 : decode cX5_bestEach 90 = .ok (.iload 5, 2) := by decide +kernel
theorem dX5_bestEach_92 : decode cX5_bestEach 92 = .ok (.istore_n 3, 1) := by decide +kernel
theorem dX5_bestEach_93 : decode cX5_bestEach 93 = .ok (.iinc 4 1, 3) := by decide +kernel
theorem dX5_bestEach_96 : decode cX5_bestEach 96 = .ok (.goto (-53), 3) := by decide +kernel
theorem dX5_bestEach_99 : decode cX5_bestEach 99 = .ok (.iload_n 2, 1) := by decide +kernel
theorem dX5_bestEach_100 : decode cX5_bestEach 100 = .ok (.ireturn, 1) := by decide +kernel
theorem dX5_bestSpit_0 : decode cX5_bestSpit 0 = .ok (.aload_n 0, 1) := by decide +kernel
theorem dX5_bestSpit_1 : decode cX5_bestSpit 1 = .ok (.iconst 0, 1) := by decide +kernel
theorem dX5_bestSpit_2 : decode cX5_bestSpit 2 = .ok (.putfield 32, 3) := by decide +kernel
theorem dX5_bestSpit_5 : decode cX5_bestSpit 5 = .ok (.iload_n 1, 1) := by decide +kernel
theorem dX5_bestSpit_6 : decode cX5_bestSpit 6 = .ok (.iconst 1, 1) := by decide +kernel
theorem dX5_bestSpit_7 : decode cX5_bestSpit 7 = .ok (.bipush 12, 2) := by decide +kernel
theorem dX5_bestSpit_9 : decode cX5_bestSpit 9 = .ok (.invokestatic 38, 3) := by decide +kernel
theorem dX5_bestSpit_12 : decode cX5_bestSpit 12 = .ok (.ifCond .ne 9, 3) := by decide +kernel
theorem dX5_bestSpit_15 : decode cX5_bestSpit 15 = .ok (.aload_n 0, 1) := by decide +kernel
theorem dX5_bestSpit_16 : decode cX5_bestSpit 16 = .ok (.iconst 1, 1) := by decide +kernel
theorem dX5_bestSpit_17 : decode cX5_bestSpit 17 = .ok (.invokevirtual 103, 3) := by decide +kernel
theorem dX5_bestSpit_20 : decode cX5_bestSpit 20 = .ok (.ireturn, 1) := by decide +kernel
theorem dX5_bestSpit_21 : decode cX5_bestSpit 21 = .ok (.aload_n 0, 1) := by decide +kernel
theorem dX5_bestSpit_22 : decode cX5_bestSpit 22 = .ok (.getfield 45, 3) := by decide +kernel
theorem dX5_bestSpit_25 : decode cX5_bestSpit 25 = .ok (.bipush 16, 2) := by decide +kernel
theorem dX5_bestSpit_27 : decode cX5_bestSpit 27 = .ok (.if_icmp .ne 9, 3) := by decide +kernel
theorem dX5_bestSpit_30 : decode cX5_bestSpit 30 = .ok (.aload_n 0, 1) := by decide +kernel
theorem dX5_bestSpit_31 : decode cX5_bestSpit 31 = .ok (.iconst 2, 1) := by decide +kernel
theorem dX5_bestSpit_32 : decode cX5_bestSpit 32 = .ok (.invokevirtual 103, 3) := by decide +kernel
theorem dX5_bestSpit_35 : decode cX5_bestSpit 35 = .ok (.ireturn, 1) := by decide +kernel
theorem dX5_bestSpit_36 : decode cX5_bestSpit 36 = .ok (.iconst (-1), 1) := by decide +kernel
theorem dX5_bestSpit_37 : decode cX5_bestSpit 37 = .ok (.istore_n 2, 1) := by decide +kernel
theorem dX5_bestSpit_38 : decode cX5_bestSpit 38 = .ok (.sipush 201, 3) := by decide +kernel
theorem dX5_bestSpit_41 : decode cX5_bestSpit 41 = .ok (.istore_n 3, 1) := by decide +kernel
theorem dX5_bestSpit_42 : decode cX5_bestSpit 42 = .ok (.aload_n 0, 1) := by decide +kernel
theorem dX5_bestSpit_43 : decode cX5_bestSpit 43 = .ok (.invokevirtual 150, 3) := by decide +kernel
theorem dX5_bestSpit_46 : decode cX5_bestSpit 46 = .ok (.iconst 0, 1) := by decide +kernel
theorem dX5_bestSpit_47 : decode cX5_bestSpit 47 = .ok (.istore 4, 2) := by decide +kernel
theorem dX5_bestSpit_49 : decode cX5_bestSpit 49 = .ok (.iload 4, 2) := by decide +kernel
theorem dX5_bestSpit_51 : decode cX5_bestSpit 51 = .ok (.aload_n 0, 1) := by decide +kernel
theorem dX5_bestSpit_52 : decode cX5_bestSpit 52 = .ok (.getfield 42, 3) := by decide +kernel
theorem dX5_bestSpit_55 : decode cX5_bestSpit 55 = .ok (.if_icmp .ge 61, 3) := by decide +kernel
theorem dX5_bestSpit_58 : decode cX5_bestSpit 58 = .ok (.aload_n 0, 1) := by decide +kernel
theorem dX5_bestSpit_59 : decode cX5_bestSpit 59 = .ok (.iload 4, 2) := by decide +kernel
theorem dX5_bestSpit_61 : decode cX5_bestSpit 61 = .ok (.iconst 2, 1) := by decide +kernel
theorem dX5_bestSpit_62 : decode cX5_bestSpit 62 = .ok (.invokevirtual 58, 3) := by decide +kernel
theorem dX5_bestSpit_65 : decode cX5_bestSpit 65 = .ok (.ifCond .le 6, 3) := by decide +kernel
theorem dX5_bestSpit_68 : decode cX5_bestSpit 68 = .ok (.goto 42, 3) := by decide +kernel
theorem dX5_bestSpit_71 : decode cX5_bestSpit 71 = .ok (.aload_n 0, 1) := by decide +kernel
theorem dX5_bestSpit_72 : decode cX5_bestSpit 72 = .ok (.iload 4, 2) := by decide +kernel
theorem dX5_bestSpit_74 : decode cX5_bestSpit 74 = .ok (.iload_n 1, 1) := by decide +kernel
theorem dX5_bestSpit_75 : decode cX5_bestSpit 75 = .ok (.invokevirtual 116, 3) := by decide +kernel
theorem dX5_bestSpit_78 : decode cX5_bestSpit 78 = .ok (.aload_n 0, 1) := by decide +kernel
theorem dX5_bestSpit_79 : decode cX5_bestSpit 79 = .ok (.aload_n 0, 1) := by decide +kernel
theorem dX5_bestSpit_80 : decode cX5_bestSpit 80 = .ok (.getfield 45, 3) := by decide +kernel
theorem dX5_bestSpit_83 : decode cX5_bestSpit 83 = .ok (.iconst 0, 1) := by decide +kernel
theorem dX5_bestSpit_84 : decode cX5_bestSpit 84 = .ok (.invokevirtual 153, 3) := by decide +kernel
theorem dX5_bestSpit_87 : decode cX5_bestSpit 87 = .ok (.istore 5, 2) := by decide +kernel
theorem dX5_bestSpit_89 : decode cX5_bestSpit 89 = .ok (.iload 5, 2) := by decide +kernel
theorem dX5_bestSpit_91 : decode cX5_bestSpit 91 = .ok (.iconst (-1), 1) := by decide +kernel
theorem dX5_bestSpit_92 : decode cX5_bestSpit 92 = .ok (.if_icmp .eq 18, 3) := by decide +kernel
theorem dX5_bestSpit_95 : decode cX5_bestSpit 95 = .ok (.iload 5, 2) := by decide +kernel
theorem dX5_bestSpit_97 : decode cX5_bestSpit 97 = .ok (.iload_n 3, 1) := by decide +kernel
theorem dX5_bestSpit_98 : decode cX5_bestSpit 98 = .ok (.if_icmp .lt 6, 3) := by decide +kernel
theorem dX5_bestSpit_101 : decode cX5_bestSpit 101 = .ok (.goto 9, 3) := by decide +kernel
theorem dX5_bestSpit_104 : decode cX5_bestSpit 104 = .ok (.iload 4, 2) := by decide +kernel
theorem dX5_bestSpit_106 : decode cX5_bestSpit 106 = .ok (.istore_n 2, 1) := by decide +kernel
theorem dX5_bestSpit_107 : decode cX5_bestSpit 107 = .ok (.iload 5, 2) := by decide +kernel
theorem dX5_bestSpit_109 : decode cX5_bestSpit 109 = .ok (.istore_n 3, 1) := by decide +kernel
theorem dX5_bestSpit_110 : decode cX5_bestSpit 110 = .ok (.iinc 4 1, 3) := by decide +kernel
theorem dX5_bestSpit_113 : decode cX5_bestSpit 113 = .ok (.goto (-64), 3) := by decide +kernel
theorem dX5_bestSpit_116 : decode cX5_bestSpit 116 = .ok (.iload_n 2, 1) := by decide +kernel
theorem dX5_bestSpit_117 : decode cX5_bestSpit 117 = .ok (.ireturn, 1) := by decide +kernel
theorem dX5_meanBrown_0 : decode cX5_meanBrown 0 = .ok (.aload_n 0, 1) := by decide +kernel
theorem dX5_meanBrown_1 : decode cX5_meanBrown 1 = .ok (.iconst 0, 1) := by decide +kernel
theorem dX5_meanBrown_2 : decode cX5_meanBrown 2 = .ok (.putfield 32, 3) := by decide +kernel
theorem dX5_meanBrown_5 : decode cX5_meanBrown 5 = .ok (.iconst 0, 1) := by decide +kernel
theorem dX5_meanBrown_6 : decode cX5_meanBrown 6 = .ok (.istore_n 1, 1) := by decide +kernel
theorem dX5_meanBrown_7 : decode cX5_meanBrown 7 = .ok (.iconst 0, 1) := by decide +kernel
theorem dX5_meanBrown_8 : decode cX5_meanBrown 8 = .ok (.istore_n 2, 1) := by decide +kernel
theorem dX5_meanBrown_9 : decode cX5_meanBrown 9 = .ok (.iload_n 2, 1) := by decide +kernel
theorem dX5_meanBrown_10 : decode cX5_meanBrown 10 = .ok (.aload_n 0, 1) := by decide +kernel
theorem dX5_meanBrown_11 : decode cX5_meanBrown 11 = .ok (.getfield 45, 3) := by decide +kernel
theorem dX5_meanBrown_14 : decode cX5_meanBrown 14 = .ok (.if_icmp .ge 33, 3) := by decide +kernel
theorem dX5_meanBrown_17 : decode cX5_meanBrown 17 = .ok (.iconst 0, 1) := by decide +kernel
theorem dX5_meanBrown_18 : decode cX5_meanBrown 18 = .ok (.istore_n 3, 1) := by decide +kernel
theorem dX5_meanBrown_19 : decode cX5_meanBrown 19 = .ok (.iload_n 3, 1) := by decide +kernel
theorem dX5_meanBrown_20 : decode cX5_meanBrown 20 = .ok (.iconst 4, 1) := by decide +kernel
theorem dX5_meanBrown_21 : decode cX5_meanBrown 21 = .ok (.if_icmp .ge 20, 3) := by decide +kernel
theorem dX5_meanBrown_24 : decode cX5_meanBrown 24 = .ok (.iload_n 1, 1) := by decide +kernel
theorem dX5_meanBrown_25 : decode cX5_meanBrown 25 = .ok (.aload_n 0, 1) := by decide +kernel
theorem dX5_meanBrown_26 : decode cX5_meanBrown 26 = .ok (.iload_n 2, 1) := by decide +kernel
theorem dX5_meanBrown_27 : decode cX5_meanBrown 27 = .ok (.iconst 4, 1) := by decide +kernel
theorem dX5_meanBrown_28 : decode cX5_meanBrown 28 = .ok (.iload_n 3, 1) := by decide +kernel
theorem dX5_meanBrown_29 : decode cX5_meanBrown 29 = .ok (.iadd, 1) := by decide +kernel
theorem dX5_meanBrown_30 : decode cX5_meanBrown 30 = .ok (.invokevirtual 61, 3) := by decide +kernel
theorem dX5_meanBrown_33 : decode cX5_meanBrown 33 = .ok (.iadd, 1) := by decide +kernel
theorem dX5_meanBrown_34 : decode cX5_meanBrown 34 = .ok (.istore_n 1, 1) := by decide +kernel
theorem dX5_meanBrown_35 : decode cX5_meanBrown 35 = .ok (.iinc 3 1, 3) := by decide +kernel
theorem dX5_meanBrown_38 : decode cX5_meanBrown 38 = .ok (.goto (-19), 3) := by decide +kernel
theorem dX5_meanBrown_41 : decode cX5_meanBrown 41 = .ok (.iinc 2 1, 3) := by decide +kernel
theorem dX5_meanBrown_44 : decode cX5_meanBrown 44 = .ok (.goto (-35), 3) := by decide +kernel
theorem dX5_meanBrown_47 : decode cX5_meanBrown 47 = .ok (.aload_n 0, 1) := by decide +kernel
theorem dX5_meanBrown_48 : decode cX5_meanBrown 48 = .ok (.getfield 45, 3) := by decide +kernel
theorem dX5_meanBrown_51 : decode cX5_meanBrown 51 = .ok (.ifCond .ne 7, 3) := by decide +kernel
theorem dX5_meanBrown_54 : decode cX5_meanBrown 54 = .ok (.dconst 0, 1) := by decide +kernel
theorem dX5_meanBrown_55 : decode cX5_meanBrown 55 = .ok (.goto 13, 3) := by decide +kernel
theorem dX5_meanBrown_58 : decode cX5_meanBrown 58 = .ok (.iload_n 1, 1) := by decide +kernel
theorem dX5_meanBrown_59 : decode cX5_meanBrown 59 = .ok (.i2d, 1) := by decide +kernel
theorem dX5_meanBrown_60 : decode cX5_meanBrown 60 = .ok (.iconst 4, 1) := by decide +kernel
theorem dX5_meanBrown_61 : decode cX5_meanBrown 61 = .ok (.aload_n 0, 1) := by decide +kernel
theorem dX5_meanBrown_62 : decode cX5_meanBrown 62 = .ok (.getfield 45, 3) := by decide +kernel
theorem dX5_meanBrown_65 : decode cX5_meanBrown 65 = .ok (.imul, 1) := by decide +kernel
theorem dX5_meanBrown_66 : decode cX5_meanBrown 66 = .ok (.i2d, 1) := by decide +kernel
theorem dX5_meanBrown_67 : decode cX5_meanBrown 67 = .ok (.ddiv, 1) := by decide +kernel
theorem dX5_meanBrown_68 : decode cX5_meanBrown 68 = .ok (.dreturn, 1) := by decide +kernel
theorem dX5_digest_0 : decode cX5_digest 0 = .ok (.aload_n 0, 1) := by decide +kernel
theorem dX5_digest_1 : decode cX5_digest 1 = .ok (.iconst 0, 1) := by decide +kernel
theorem dX5_digest_2 : decode cX5_digest 2 = .ok (.putfield 32, 3) := by decide +kernel
theorem dX5_digest_5 : decode cX5_digest 5 = .ok (.iconst 5, 1) := by decide +kernel
theorem dX5_digest_6 : decode cX5_digest 6 = .ok (.newarray .int, 2) := by decide +kernel
theorem dX5_digest_8 : decode cX5_digest 8 = .ok (.dup, 1) := by decide +kernel
theorem dX5_digest_9 : decode cX5_digest 9 = .ok (.iconst 0, 1) := by decide +kernel
theorem dX5_digest_10 : decode cX5_digest 10 = .ok (.aload_n 0, 1) := by decide +kernel
theorem dX5_digest_11 : decode cX5_digest 11 = .ok (.getfield 26, 3) := by decide +kernel
theorem dX5_digest_14 : decode cX5_digest 14 = .ok (.iconst 0, 1) := by decide +kernel
theorem dX5_digest_15 : decode cX5_digest 15 = .ok (.iaload, 1) := by decide +kernel
theorem dX5_digest_16 : decode cX5_digest 16 = .ok (.iastore, 1) := by decide +kernel
theorem dX5_digest_17 : decode cX5_digest 17 = .ok (.dup, 1) := by decide +kernel
theorem dX5_digest_18 : decode cX5_digest 18 = .ok (.iconst 1, 1) := by decide +kernel
theorem dX5_digest_19 : decode cX5_digest 19 = .ok (.aload_n 0, 1) := by decide +kernel
theorem dX5_digest_20 : decode cX5_digest 20 = .ok (.getfield 7, 3) := by decide +kernel
theorem dX5_digest_23 : decode cX5_digest 23 = .ok (.iastore, 1) := by decide +kernel
theorem dX5_digest_24 : decode cX5_digest 24 = .ok (.dup, 1) := by decide +kernel
theorem dX5_digest_25 : decode cX5_digest 25 = .ok (.iconst 2, 1) := by decide +kernel
theorem dX5_digest_26 : decode cX5_digest 26 = .ok (.aload_n 0, 1) := by decide +kernel
theorem dX5_digest_27 : decode cX5_digest 27 = .ok (.getfield 35, 3) := by decide +kernel
theorem dX5_digest_30 : decode cX5_digest 30 = .ok (.iastore, 1) := by decide +kernel
theorem dX5_digest_31 : decode cX5_digest 31 = .ok (.dup, 1) := by decide +kernel
theorem dX5_digest_32 : decode cX5_digest 32 = .ok (.iconst 3, 1) := by decide +kernel
theorem dX5_digest_33 : decode cX5_digest 33 = .ok (.aload_n 0, 1) := by decide +kernel
theorem dX5_digest_34 : decode cX5_digest 34 = .ok (.getfield 42, 3) := by decide +kernel
theorem dX5_digest_37 : decode cX5_digest 37 = .ok (.iastore, 1) := by decide +kernel
theorem dX5_digest_38 : decode cX5_digest 38 = .ok (.dup, 1) := by decide +kernel
theorem dX5_digest_39 : decode cX5_digest 39 = .ok (.iconst 4, 1) := by decide +kernel
theorem dX5_digest_40 : decode cX5_digest 40 = .ok (.aload_n 0, 1) := by decide +kernel
theorem dX5_digest_41 : decode cX5_digest 41 = .ok (.getfield 45, 3) := by decide +kernel
theorem dX5_digest_44 : decode cX5_digest 44 = .ok (.iastore, 1) := by decide +kernel
theorem dX5_digest_45 : decode cX5_digest 45 = .ok (.astore_n 1, 1) := by decide +kernel
theorem dX5_digest_46 : decode cX5_digest 46 = .ok (.ldc2_w 157, 3) := by decide +kernel
theorem dX5_digest_49 : decode cX5_digest 49 = .ok (.lstore_n 2, 1) := by decide +kernel
theorem dX5_digest_50 : decode cX5_digest 50 = .ok (.aload_n 1, 1) := by decide +kernel
theorem dX5_digest_51 : decode cX5_digest 51 = .ok (.astore 4, 2) := by decide +kernel
theorem dX5_digest_53 : decode cX5_digest 53 = .ok (.aload 4, 2) := by decide +kernel
theorem dX5_digest_55 : decode cX5_digest 55 = .ok (.arraylength, 1) := by decide +kernel
theorem dX5_digest_56 : decode cX5_digest 56 = .ok (.istore 5, 2) := by decide +kernel
theorem dX5_digest_58 : decode cX5_digest 58 = .ok (.iconst 0, 1) := by decide +kernel
theorem dX5_digest_59 : decode cX5_digest 59 = .ok (.istore 6, 2) := by decide +kernel
theorem dX5_digest_61 : decode cX5_digest 61 = .ok (.iload 6, 2) := by decide +kernel
theorem dX5_digest_63 : decode cX5_digest 63 = .ok (.iload 5, 2) := by decide +kernel
theorem dX5_digest_65 : decode cX5_digest 65 = .ok (.if_icmp .ge 26, 3) := by decide +kernel
theorem dX5_digest_68 : decode cX5_digest 68 = .ok (.aload 4, 2) := by decide +kernel
theorem dX5_digest_70 : decode cX5_digest 70 = .ok (.iload 6, 2) := by decide +kernel
theorem dX5_digest_72 : decode cX5_digest 72 = .ok (.iaload, 1) := by decide +kernel
theorem dX5_digest_73 : decode cX5_digest 73 = .ok (.istore 7, 2) := by decide +kernel
theorem dX5_digest_75 : decode cX5_digest 75 = .ok (.lload_n 2, 1) := by decide +kernel
theorem dX5_digest_76 : decode cX5_digest 76 = .ok (.ldc2_w 159, 3) := by decide +kernel
theorem dX5_digest_79 : decode cX5_digest 79 = .ok (.lmul, 1) := by decide +kernel
theorem dX5_digest_80 : decode cX5_digest 80 = .ok (.iload 7, 2) := by decide +kernel
theorem dX5_digest_82 : decode cX5_digest 82 = .ok (.i2l, 1) := by decide +kernel
theorem dX5_digest_83 : decode cX5_digest 83 = .ok (.ladd, 1) := by decide +kernel
theorem dX5_digest_84 : decode cX5_digest 84 = .ok (.lstore_n 2, 1) := by decide +kernel
theorem dX5_digest_85 : decode cX5_digest 85 = .ok (.iinc 6 1, 3) := by decide +kernel
theorem dX5_digest_88 : decode cX5_digest 88 = .ok (.goto (-27), 3) := by decide +kernel
theorem dX5_digest_91 : decode cX5_digest 91 = .ok (.iconst 0, 1) := by decide +kernel
theorem dX5_digest_92 : decode cX5_digest 92 = .ok (.istore 4, 2) := by decide +kernel
theorem dX5_digest_94 : decode cX5_digest 94 = .ok (.iload 4, 2) := by decide +kernel
theorem dX5_digest_96 : decode cX5_digest 96 = .ok (.aload_n 0, 1) := by decide +kernel
theorem dX5_digest_97 : decode cX5_digest 97 = .ok (.getfield 35, 3) := by decide +kernel
theorem dX5_digest_100 : decode cX5_digest 100 = .ok (.if_icmp .ge 39, 3) := by decide +kernel
theorem dX5_digest_103 : decode cX5_digest 103 = .ok (.lload_n 2, 1) := by decide +kernel
theorem dX5_digest_104 : decode cX5_digest 104 = .ok (.ldc2_w 159, 3) := by decide +kernel
theorem dX5_digest_107 : decode cX5_digest 107 = .ok (.lmul, 1) := by decide +kernel
theorem dX5_digest_108 : decode cX5_digest 108 = .ok (.aload_n 0, 1) := by decide +kernel
theorem dX5_digest_109 : decode cX5_digest 109 = .ok (.iload 4, 2) := by decide +kernel
theorem dX5_digest_111 : decode cX5_digest 111 = .ok (.iconst 0, 1) := by decide +kernel
theorem dX5_digest_112 : decode cX5_digest 112 = .ok (.invokevirtual 54, 3) := by decide +kernel
theorem dX5_digest_115 : decode cX5_digest 115 = .ok (.i2l, 1) := by decide +kernel
theorem dX5_digest_116 : decode cX5_digest 116 = .ok (.ladd, 1) := by decide +kernel
theorem dX5_digest_117 : decode cX5_digest 117 = .ok (.lstore_n 2, 1) := by decide +kernel
theorem dX5_digest_118 : decode cX5_digest 118 = .ok (.lload_n 2, 1) := by decide +kernel
theorem dX5_digest_119 : decode cX5_digest 119 = .ok (.ldc2_w 159, 3) := by decide +kernel
theorem dX5_digest_122 : decode cX5_digest 122 = .ok (.lmul, 1) := by decide +kernel
theorem dX5_digest_123 : decode cX5_digest 123 = .ok (.aload_n 0, 1) := by decide +kernel
theorem dX5_digest_124 : decode cX5_digest 124 = .ok (.iload 4, 2) := by decide +kernel
theorem dX5_digest_126 : decode cX5_digest 126 = .ok (.iconst 1, 1) := by decide +kernel
theorem dX5_digest_127 : decode cX5_digest 127 = .ok (.invokevirtual 54, 3) := by decide +kernel
theorem dX5_digest_130 : decode cX5_digest 130 = .ok (.i2l, 1) := by decide +kernel
theorem dX5_digest_131 : decode cX5_digest 131 = .ok (.ladd, 1) := by decide +kernel
theorem dX5_digest_132 : decode cX5_digest 132 = .ok (.lstore_n 2, 1) := by decide +kernel
theorem dX5_digest_133 : decode cX5_digest 133 = .ok (.iinc 4 1, 3) := by decide +kernel
theorem dX5_digest_136 : decode cX5_digest 136 = .ok (.goto (-42), 3) := by decide +kernel
theorem dX5_digest_139 : decode cX5_digest 139 = .ok (.iconst 0, 1) := by decide +kernel
theorem dX5_digest_140 : decode cX5_digest 140 = .ok (.istore 4, 2) := by decide +kernel
theorem dX5_digest_142 : decode cX5_digest 142 = .ok (.iload 4, 2) := by decide +kernel
theorem dX5_digest_144 : decode cX5_digest 144 = .ok (.aload_n 0, 1) := by decide +kernel
theorem dX5_digest_145 : decode cX5_digest 145 = .ok (.getfield 42, 3) := by decide +kernel
theorem dX5_digest_148 : decode cX5_digest 148 = .ok (.if_icmp .ge 118, 3) := by decide +kernel
theorem dX5_digest_151 : decode cX5_digest 151 = .ok (.bipush 6, 2) := by decide +kernel
theorem dX5_digest_153 : decode cX5_digest 153 = .ok (.newarray .int, 2) := by decide +kernel
theorem dX5_digest_155 : decode cX5_digest 155 = .ok (.dup, 1) := by decide +kernel
theorem dX5_digest_156 : decode cX5_digest 156 = .ok (.iconst 0, 1) := by decide +kernel
theorem dX5_digest_157 : decode cX5_digest 157 = .ok (.aload_n 0, 1) := by decide +kernel
theorem dX5_digest_158 : decode cX5_digest 158 = .ok (.getfield 13, 3) := by decide +kernel
theorem dX5_digest_161 : decode cX5_digest 161 = .ok (.iload 4, 2) := by decide +kernel
theorem dX5_digest_163 : decode cX5_digest 163 = .ok (.iaload, 1) := by decide +kernel
theorem dX5_digest_164 : decode cX5_digest 164 = .ok (.iastore, 1) := by decide +kernel
theorem dX5_digest_165 : decode cX5_digest 165 = .ok (.dup, 1) := by decide +kernel
theorem dX5_digest_166 : decode cX5_digest 166 = .ok (.iconst 1, 1) := by decide +kernel
theorem dX5_digest_167 : decode cX5_digest 167 = .ok (.aload_n 0, 1) := by decide +kernel
theorem dX5_digest_168 : decode cX5_digest 168 = .ok (.iload 4, 2) := by decide +kernel
theorem dX5_digest_170 : decode cX5_digest 170 = .ok (.iconst 0, 1) := by decide +kernel
theorem dX5_digest_171 : decode cX5_digest 171 = .ok (.invokevirtual 58, 3) := by decide +kernel
theorem dX5_digest_174 : decode cX5_digest 174 = .ok (.iastore, 1) := by decide +kernel
theorem dX5_digest_175 : decode cX5_digest 175 = .ok (.dup, 1) := by decide +kernel
theorem dX5_digest_176 : decode cX5_digest 176 = .ok (.iconst 2, 1) := by decide +kernel
theorem dX5_digest_177 : decode cX5_digest 177 = .ok (.aload_n 0, 1) := by decide +kernel
theorem dX5_digest_178 : decode cX5_digest 178 = .ok (.iload 4, 2) := by decide +kernel
theorem dX5_digest_180 : decode cX5_digest 180 = .ok (.invokevirtual 77, 3) := by decide +kernel
theorem dX5_digest_183 : decode cX5_digest 183 = .ok (.iastore, 1) := by decide +kernel
theorem dX5_digest_184 : decode cX5_digest 184 = .ok (.dup, 1) := by decide +kernel
theorem dX5_digest_185 : decode cX5_digest 185 = .ok (.iconst 3, 1) := by decide +kernel
theorem dX5_digest_186 : decode cX5_digest 186 = .ok (.aload_n 0, 1) := by decide +kernel
theorem dX5_digest_187 : decode cX5_digest 187 = .ok (.iload 4, 2) := by decide +kernel
theorem dX5_digest_189 : decode cX5_digest 189 = .ok (.iconst 4, 1) := by decide +kernel
theorem dX5_digest_190 : decode cX5_digest 190 = .ok (.invokevirtual 58, 3) := by decide +kernel
theorem dX5_digest_193 : decode cX5_digest 193 = .ok (.iastore, 1) := by decide +kernel
theorem dX5_digest_194 : decode cX5_digest 194 = .ok (.dup, 1) := by decide +kernel
theorem dX5_digest_195 : decode cX5_digest 195 = .ok (.iconst 4, 1) := by decide +kernel
theorem dX5_digest_196 : decode cX5_digest 196 = .ok (.aload_n 0, 1) := by decide +kernel
theorem dX5_digest_197 : decode cX5_digest 197 = .ok (.iload 4, 2) := by decide +kernel
theorem dX5_digest_199 : decode cX5_digest 199 = .ok (.iconst 1, 1) := by decide +kernel
theorem dX5_digest_200 : decode cX5_digest 200 = .ok (.invokevirtual 58, 3) := by decide +kernel
theorem dX5_digest_203 : decode cX5_digest 203 = .ok (.iastore, 1) := by decide +kernel
theorem dX5_digest_204 : decode cX5_digest 204 = .ok (.dup, 1) := by decide +kernel
theorem dX5_digest_205 : decode cX5_digest 205 = .ok (.iconst 5, 1) := by decide +kernel
theorem dX5_digest_206 : decode cX5_digest 206 = .ok (.aload_n 0, 1) := by decide +kernel
theorem dX5_digest_207 : decode cX5_digest 207 = .ok (.iload 4, 2) := by decide +kernel
theorem dX5_digest_209 : decode cX5_digest 209 = .ok (.iconst 2, 1) := by decide +kernel
theorem dX5_digest_210 : decode cX5_digest 210 = .ok (.invokevirtual 58, 3) := by decide +kernel
theorem dX5_digest_213 : decode cX5_digest 213 = .ok (.iconst 1, 1) := by decide +kernel
theorem dX5_digest_214 : decode cX5_digest 214 = .ok (.isub, 1) := by decide +kernel
theorem dX5_digest_215 : decode cX5_digest 215 = .ok (.iastore, 1) := by decide +kernel
theorem dX5_digest_216 : decode cX5_digest 216 = .ok (.astore 5, 2) := by decide +kernel
theorem dX5_digest_218 : decode cX5_digest 218 = .ok (.aload 5, 2) := by decide +kernel
theorem dX5_digest_220 : decode cX5_digest 220 = .ok (.astore 6, 2) := by decide +kernel
theorem dX5_digest_222 : decode cX5_digest 222 = .ok (.aload 6, 2) := by decide +kernel
theorem dX5_digest_224 : decode cX5_digest 224 = .ok (.arraylength, 1) := by decide +kernel
theorem dX5_digest_225 : decode cX5_digest 225 = .ok (.istore 7, 2) := by decide +kernel
theorem dX5_digest_227 : decode cX5_digest 227 = .ok (.iconst 0, 1) := by decide +kernel
theorem dX5_digest_228 : decode cX5_digest 228 = .ok (.istore 8, 2) := by decide +kernel
theorem dX5_digest_230 : decode cX5_digest 230 = .ok (.iload 8, 2) := by decide +kernel
theorem dX5_digest_232 : decode cX5_digest 232 = .ok (.iload 7, 2) := by decide +kernel
theorem dX5_digest_234 : decode cX5_digest 234 = .ok (.if_icmp .ge 26, 3) := by decide +kernel
theorem dX5_digest_237 : decode cX5_digest 237 = .ok (.aload 6, 2) := by decide +kernel
theorem dX5_digest_239 : decode cX5_digest 239 = .ok (.iload 8, 2) := by decide +kernel
theorem dX5_digest_241 : decode cX5_digest 241 = .ok (.iaload, 1) := by decide +kernel
theorem dX5_digest_242 : decode cX5_digest 242 = .ok (.istore 9, 2) := by decide +kernel
theorem dX5_digest_244 : decode cX5_digest 244 = .ok (.lload_n 2, 1) := by decide +kernel
theorem dX5_digest_245 : decode cX5_digest 245 = .ok (.ldc2_w 159, 3) := by decide +kernel
theorem dX5_digest_248 : decode cX5_digest 248 = .ok (.lmul, 1) := by decide +kernel
theorem dX5_digest_249 : decode cX5_digest 249 = .ok (.iload 9, 2) := by decide +kernel
theorem dX5_digest_251 : decode cX5_digest 251 = .ok (.i2l, 1) := by decide +kernel
theorem dX5_digest_252 : decode cX5_digest 252 = .ok (.ladd, 1) := by decide +kernel
theorem dX5_digest_253 : decode cX5_digest 253 = .ok (.lstore_n 2, 1) := by decide +kernel
theorem dX5_digest_254 : decode cX5_digest 254 = .ok (.iinc 8 1, 3) := by decide +kernel
theorem dX5_digest_257 : decode cX5_digest 257 = .ok (.goto (-27), 3) := by decide +kernel
theorem dX5_digest_260 : decode cX5_digest 260 = .ok (.iinc 4 1, 3) := by decide +kernel
theorem dX5_digest_263 : decode cX5_digest 263 = .ok (.goto (-121), 3) := by decide +kernel
theorem dX5_digest_266 : decode cX5_digest 266 = .ok (.iconst 0, 1) := by decide +kernel
theorem dX5_digest_267 : decode cX5_digest 267 = .ok (.istore 4, 2) := by decide +kernel
theorem dX5_digest_269 : decode cX5_digest 269 = .ok (.iload 4, 2) := by decide +kernel
theorem dX5_digest_271 : decode cX5_digest 271 = .ok (.aload_n 0, 1) := by decide +kernel
theorem dX5_digest_272 : decode cX5_digest 272 = .ok (.getfield 45, 3) := by decide +kernel
theorem dX5_digest_275 : decode cX5_digest 275 = .ok (.if_icmp .ge 177, 3) := by decide +kernel
theorem dX5_digest_278 : decode cX5_digest 278 = .ok (.bipush 7, 2) := by decide +kernel
theorem dX5_digest_280 : decode cX5_digest 280 = .ok (.newarray .int, 2) := by decide +kernel
theorem dX5_digest_282 : decode cX5_digest 282 = .ok (.dup, 1) := by decide +kernel
theorem dX5_digest_283 : decode cX5_digest 283 = .ok (.iconst 0, 1) := by decide +kernel
theorem dX5_digest_284 : decode cX5_digest 284 = .ok (.aload_n 0, 1) := by decide +kernel
theorem dX5_digest_285 : decode cX5_digest 285 = .ok (.getfield 17, 3) := by decide +kernel
theorem dX5_digest_288 : decode cX5_digest 288 = .ok (.iload 4, 2) := by decide +kernel
theorem dX5_digest_290 : decode cX5_digest 290 = .ok (.iaload, 1) := by decide +kernel
theorem dX5_digest_291 : decode cX5_digest 291 = .ok (.iastore, 1) := by decide +kernel
theorem dX5_digest_292 : decode cX5_digest 292 = .ok (.dup, 1) := by decide +kernel
theorem dX5_digest_293 : decode cX5_digest 293 = .ok (.iconst 1, 1) := by decide +kernel
theorem dX5_digest_294 : decode cX5_digest 294 = .ok (.aload_n 0, 1) := by decide +kernel
theorem dX5_digest_295 : decode cX5_digest 295 = .ok (.iload 4, 2) := by decide +kernel
theorem dX5_digest_297 : decode cX5_digest 297 = .ok (.iconst 0, 1) := by decide +kernel
theorem dX5_digest_298 : decode cX5_digest 298 = .ok (.invokevirtual 61, 3) := by decide +kernel
theorem dX5_digest_301 : decode cX5_digest 301 = .ok (.iconst 1, 1) := by decide +kernel
theorem dX5_digest_302 : decode cX5_digest 302 = .ok (.isub, 1) := by decide +kernel
theorem dX5_digest_303 : decode cX5_digest 303 = .ok (.iastore, 1) := by decide +kernel
theorem dX5_digest_304 : decode cX5_digest 304 = .ok (.dup, 1) := by decide +kernel
theorem dX5_digest_305 : decode cX5_digest 305 = .ok (.iconst 2, 1) := by decide +kernel
theorem dX5_digest_306 : decode cX5_digest 306 = .ok (.aload_n 0, 1) := by decide +kernel
theorem dX5_digest_307 : decode cX5_digest 307 = .ok (.iload 4, 2) := by decide +kernel
theorem dX5_digest_309 : decode cX5_digest 309 = .ok (.iconst 1, 1) := by decide +kernel
theorem dX5_digest_310 : decode cX5_digest 310 = .ok (.invokevirtual 61, 3) := by decide +kernel
theorem dX5_digest_313 : decode cX5_digest 313 = .ok (.iastore, 1) := by decide +kernel
theorem dX5_digest_314 : decode cX5_digest 314 = .ok (.dup, 1) := by decide +kernel
theorem dX5_digest_315 : decode cX5_digest 315 = .ok (.iconst 3, 1) := by decide +kernel
theorem dX5_digest_316 : decode cX5_digest 316 = .ok (.aload_n 0, 1) := by decide +kernel
theorem dX5_digest_317 : decode cX5_digest 317 = .ok (.iload 4, 2) := by decide +kernel
theorem dX5_digest_319 : decode cX5_digest 319 = .ok (.iconst 2, 1) := by decide +kernel
theorem dX5_digest_320 : decode cX5_digest 320 = .ok (.invokevirtual 61, 3) := by decide +kernel
theorem dX5_digest_323 : decode cX5_digest 323 = .ok (.iastore, 1) := by decide +kernel
theorem dX5_digest_324 : decode cX5_digest 324 = .ok (.dup, 1) := by decide +kernel
theorem dX5_digest_325 : decode cX5_digest 325 = .ok (.iconst 4, 1) := by decide +kernel
theorem dX5_digest_326 : decode cX5_digest 326 = .ok (.aload_n 0, 1) := by decide +kernel
theorem dX5_digest_327 : decode cX5_digest 327 = .ok (.iload 4, 2) := by decide +kernel
theorem dX5_digest_329 : decode cX5_digest 329 = .ok (.iconst 3, 1) := by decide +kernel
theorem dX5_digest_330 : decode cX5_digest 330 = .ok (.invokevirtual 61, 3) := by decide +kernel
theorem dX5_digest_333 : decode cX5_digest 333 = .ok (.iastore, 1) := by decide +kernel
theorem dX5_digest_334 : decode cX5_digest 334 = .ok (.dup, 1) := by decide +kernel
theorem dX5_digest_335 : decode cX5_digest 335 = .ok (.iconst 5, 1) := by decide +kernel
theorem dX5_digest_336 : decode cX5_digest 336 = .ok (.aload_n 0, 1) := by decide +kernel
theorem dX5_digest_337 : decode cX5_digest 337 = .ok (.iload 4, 2) := by decide +kernel
theorem dX5_digest_339 : decode cX5_digest 339 = .ok (.invokevirtual 141, 3) := by decide +kernel
theorem dX5_digest_342 : decode cX5_digest 342 = .ok (.ifCond .eq 7, 3) := by decide +kernel
theorem dX5_digest_345 : decode cX5_digest 345 = .ok (.iconst 1, 1) := by decide +kernel
theorem dX5_digest_346 : decode cX5_digest 346 = .ok (.goto 4, 3) := by decide +kernel
theorem dX5_digest_349 : decode cX5_digest 349 = .ok (.iconst 0, 1) := by decide +kernel
theorem dX5_digest_350 : decode cX5_digest 350 = .ok (.iastore, 1) := by decide +kernel
theorem dX5_digest_351 : decode cX5_digest 351 = .ok (.dup, 1) := by decide +kernel
theorem dX5_digest_352 : decode cX5_digest 352 = .ok (.bipush 6, 2) := by decide +kernel
theorem dX5_digest_354 : decode cX5_digest 354 = .ok (.aload_n 0, 1) := by decide +kernel
theorem dX5_digest_355 : decode cX5_digest 355 = .ok (.iload 4, 2) := by decide +kernel
theorem dX5_digest_357 : decode cX5_digest 357 = .ok (.invokevirtual 144, 3) := by decide +kernel
theorem dX5_digest_360 : decode cX5_digest 360 = .ok (.ifCond .eq 7, 3) := by decide +kernel
theorem dX5_digest_363 : decode cX5_digest 363 = .ok (.iconst 1, 1) := by decide +kernel
theorem dX5_digest_364 : decode cX5_digest 364 = .ok (.goto 4, 3) := by decide +kernel
theorem dX5_digest_367 : decode cX5_digest 367 = .ok (.iconst 0, 1) := by decide +kernel
theorem dX5_digest_368 : decode cX5_digest 368 = .ok (.iastore, 1) := by decide +kernel
theorem dX5_digest_369 : decode cX5_digest 369 = .ok (.astore 5, 2) := by decide +kernel
theorem dX5_digest_371 : decode cX5_digest 371 = .ok (.aload 5, 2) := by decide +kernel
theorem dX5_digest_373 : decode cX5_digest 373 = .ok (.astore 6, 2) := by decide +kernel
theorem dX5_digest_375 : decode cX5_digest 375 = .ok (.aload 6, 2) := by decide +kernel
theorem dX5_digest_377 : decode cX5_digest 377 = .ok (.arraylength, 1) := by decide +kernel
theorem dX5_digest_378 : decode cX5_digest 378 = .ok (.istore 7, 2) := by decide +kernel
theorem dX5_digest_380 : decode cX5_digest 380 = .ok (.iconst 0, 1) := by decide +kernel
theorem dX5_digest_381 : decode cX5_digest 381 = .ok (.istore 8, 2) := by decide +kernel
theorem dX5_digest_383 : decode cX5_digest 383 = .ok (.iload 8, 2) := by decide +kernel
theorem dX5_digest_385 : decode cX5_digest 385 = .ok (.iload 7, 2) := by decide +kernel
theorem dX5_digest_387 : decode cX5_digest 387 = .ok (.if_icmp .ge 26, 3) := by decide +kernel
theorem dX5_digest_390 : decode cX5_digest 390 = .ok (.aload 6, 2) := by decide +kernel
theorem dX5_digest_392 : decode cX5_digest 392 = .ok (.iload 8, 2) := by decide +kernel
theorem dX5_digest_394 : decode cX5_digest 394 = .ok (.iaload, 1) := by decide +kernel
theorem dX5_digest_395 : decode cX5_digest 395 = .ok (.istore 9, 2) := by decide +kernel
theorem dX5_digest_397 : decode cX5_digest 397 = .ok (.lload_n 2, 1) := by decide +kernel
theorem dX5_digest_398 : decode cX5_digest 398 = .ok (.ldc2_w 159, 3) := by decide +kernel
theorem dX5_digest_401 : decode cX5_digest 401 = .ok (.lmul, 1) := by decide +kernel
theorem dX5_digest_402 : decode cX5_digest 402 = .ok (.iload 9, 2) := by decide +kernel
theorem dX5_digest_404 : decode cX5_digest 404 = .ok (.i2l, 1) := by decide +kernel
theorem dX5_digest_405 : decode cX5_digest 405 = .ok (.ladd, 1) := by decide +kernel
theorem dX5_digest_406 : decode cX5_digest 406 = .ok (.lstore_n 2, 1) := by decide +kernel
theorem dX5_digest_407 : decode cX5_digest 407 = .ok (.iinc 8 1, 3) := by decide +kernel
theorem dX5_digest_410 : decode cX5_digest 410 = .ok (.goto (-27), 3) := by decide +kernel
theorem dX5_digest_413 : decode cX5_digest 413 = .ok (.iconst 0, 1) := by decide +kernel
theorem dX5_digest_414 : decode cX5_digest 414 = .ok (.istore 6, 2) := by decide +kernel
theorem dX5_digest_416 : decode cX5_digest 416 = .ok (.iload 6, 2) := by decide +kernel
theorem dX5_digest_418 : decode cX5_digest 418 = .ok (.iconst 4, 1) := by decide +kernel
theorem dX5_digest_419 : decode cX5_digest 419 = .ok (.if_icmp .ge 27, 3) := by decide +kernel
theorem dX5_digest_422 : decode cX5_digest 422 = .ok (.lload_n 2, 1) := by decide +kernel
theorem dX5_digest_423 : decode cX5_digest 423 = .ok (.ldc2_w 159, 3) := by decide +kernel
theorem dX5_digest_426 : decode cX5_digest 426 = .ok (.lmul, 1) := by decide +kernel
theorem dX5_digest_427 : decode cX5_digest 427 = .ok (.aload_n 0, 1) := by decide +kernel
theorem dX5_digest_428 : decode cX5_digest 428 = .ok (.iload 4, 2) := by decide +kernel
theorem dX5_digest_430 : decode cX5_digest 430 = .ok (.iconst 4, 1) := by decide +kernel
theorem dX5_digest_431 : decode cX5_digest 431 = .ok (.iload 6, 2) := by decide +kernel
theorem dX5_digest_433 : decode cX5_digest 433 = .ok (.iadd, 1) := by decide +kernel
theorem dX5_digest_434 : decode cX5_digest 434 = .ok (.invokevirtual 61, 3) := by decide +kernel
theorem dX5_digest_437 : decode cX5_digest 437 = .ok (.i2l, 1) := by decide +kernel
theorem dX5_digest_438 : decode cX5_digest 438 = .ok (.ladd, 1) := by decide +kernel
theorem dX5_digest_439 : decode cX5_digest 439 = .ok (.lstore_n 2, 1) := by decide +kernel
theorem dX5_digest_440 : decode cX5_digest 440 = .ok (.iinc 6 1, 3) := by decide +kernel
theorem dX5_digest_443 : decode cX5_digest 443 = .ok (.goto (-27), 3) := by decide +kernel
theorem dX5_digest_446 : decode cX5_digest 446 = .ok (.iinc 4 1, 3) := by decide +kernel
theorem dX5_digest_449 : decode cX5_digest 449 = .ok (.goto (-180), 3) := by decide +kernel
theorem dX5_digest_452 : decode cX5_digest 452 = .ok (.lload_n 2, 1) := by decide +kernel
theorem dX5_digest_453 : decode cX5_digest 453 = .ok (.lreturn, 1) := by decide +kernel
theorem dJ9_max_7cf53_0 : decode cJ9_max_7cf53 0 = .ok (.iload_n 0, 1) := by decide +kernel
theorem dJ9_max_7cf53_1 : decode cJ9_max_7cf53 1 = .ok (.iload_n 1, 1) := by decide +kernel
theorem dJ9_max_7cf53_2 : decode cJ9_max_7cf53 2 = .ok (.if_icmp .lt 7, 3) := by decide +kernel
theorem dJ9_max_7cf53_5 : decode cJ9_max_7cf53 5 = .ok (.iload_n 0, 1) := by decide +kernel
theorem dJ9_max_7cf53_6 : decode cJ9_max_7cf53 6 = .ok (.goto 4, 3) := by decide +kernel
theorem dJ9_max_7cf53_9 : decode cJ9_max_7cf53 9 = .ok (.iload_n 1, 1) := by decide +kernel
theorem dJ9_max_7cf53_10 : decode cJ9_max_7cf53 10 = .ok (.ireturn, 1) := by decide +kernel
theorem dJ9_min_7cf53_0 : decode cJ9_min_7cf53 0 = .ok (.iload_n 0, 1) := by decide +kernel
theorem dJ9_min_7cf53_1 : decode cJ9_min_7cf53 1 = .ok (.iload_n 1, 1) := by decide +kernel
theorem dJ9_min_7cf53_2 : decode cJ9_min_7cf53 2 = .ok (.if_icmp .gt 7, 3) := by decide +kernel
theorem dJ9_min_7cf53_5 : decode cJ9_min_7cf53 5 = .ok (.iload_n 0, 1) := by decide +kernel
theorem dJ9_min_7cf53_6 : decode cJ9_min_7cf53 6 = .ok (.goto 4, 3) := by decide +kernel
theorem dJ9_min_7cf53_9 : decode cJ9_min_7cf53 9 = .ok (.iload_n 1, 1) := by decide +kernel
theorem dJ9_min_7cf53_10 : decode cJ9_min_7cf53 10 = .ok (.ireturn, 1) := by decide +kernel
theorem dL_addFire_0 : decode cL_addFire 0 = .ok (.aload_n 1, 1) := by decide +kernel
theorem dL_addFire_1 : decode cL_addFire 1 = .ok (.iconst 0, 1) := by decide +kernel
theorem dL_addFire_2 : decode cL_addFire 2 = .ok (.aload_n 0, 1) := by decide +kernel
theorem dL_addFire_3 : decode cL_addFire 3 = .ok (.invokevirtual 7, 3) := by decide +kernel
theorem dL_addFire_6 : decode cL_addFire 6 = .ok (.i2l, 1) := by decide +kernel
theorem dL_addFire_7 : decode cL_addFire 7 = .ok (.lastore, 1) := by decide +kernel
theorem dL_addFire_8 : decode cL_addFire 8 = .ok (.goto 6, 3) := by decide +kernel
theorem dL_addFire_11 : decode cL_addFire 11 = .ok (.astore_n 2, 1) := by decide +kernel
theorem dL_addFire_12 : decode cL_addFire 12 = .ok (.iconst 1, 1) := by decide +kernel
theorem dL_addFire_13 : decode cL_addFire 13 = .ok (.ireturn, 1) := by decide +kernel
theorem dL_addFire_14 : decode cL_addFire 14 = .ok (.iconst 0, 1) := by decide +kernel
theorem dL_addFire_15 : decode cL_addFire 15 = .ok (.ireturn, 1) := by decide +kernel
theorem dL_layLogs_0 : decode cL_layLogs 0 = .ok (.aload_n 3, 1) := by decide +kernel
theorem dL_layLogs_1 : decode cL_layLogs 1 = .ok (.iconst 0, 1) := by decide +kernel
theorem dL_layLogs_2 : decode cL_layLogs 2 = .ok (.aload_n 0, 1) := by decide +kernel
theorem dL_layLogs_3 : decode cL_layLogs 3 = .ok (.iload_n 1, 1) := by decide +kernel
theorem dL_layLogs_4 : decode cL_layLogs 4 = .ok (.iload_n 2, 1) := by decide +kernel
theorem dL_layLogs_5 : decode cL_layLogs 5 = .ok (.invokevirtual 15, 3) := by decide +kernel
theorem dL_layLogs_8 : decode cL_layLogs 8 = .ok (.i2l, 1) := by decide +kernel
theorem dL_layLogs_9 : decode cL_layLogs 9 = .ok (.lastore, 1) := by decide +kernel
theorem dL_layLogs_10 : decode cL_layLogs 10 = .ok (.goto 11, 3) := by decide +kernel
theorem dL_layLogs_13 : decode cL_layLogs 13 = .ok (.astore 4, 2) := by decide +kernel
theorem dL_layLogs_15 : decode cL_layLogs 15 = .ok (.iconst 1, 1) := by decide +kernel
theorem dL_layLogs_16 : decode cL_layLogs 16 = .ok (.ireturn, 1) := by decide +kernel
theorem dL_layLogs_17 : decode cL_layLogs 17 = .ok (.astore 4, 2) := by decide +kernel
theorem dL_layLogs_19 : decode cL_layLogs 19 = .ok (.iconst 2, 1) := by decide +kernel
theorem dL_layLogs_20 : decode cL_layLogs 20 = .ok (.ireturn, 1) := by decide +kernel
theorem dL_layLogs_21 : decode cL_layLogs 21 = .ok (.iconst 0, 1) := by decide +kernel
theorem dL_layLogs_22 : decode cL_layLogs 22 = .ok (.ireturn, 1) := by decide +kernel
theorem dL_addSpit_0 : decode cL_addSpit 0 = .ok (.aload_n 3, 1) := by decide +kernel
theorem dL_addSpit_1 : decode cL_addSpit 1 = .ok (.iconst 0, 1) := by decide +kernel
theorem dL_addSpit_2 : decode cL_addSpit 2 = .ok (.aload_n 0, 1) := by decide +kernel
theorem dL_addSpit_3 : decode cL_addSpit 3 = .ok (.iload_n 1, 1) := by decide +kernel
theorem dL_addSpit_4 : decode cL_addSpit 4 = .ok (.iload_n 2, 1) := by decide +kernel
theorem dL_addSpit_5 : decode cL_addSpit 5 = .ok (.invokevirtual 23, 3) := by decide +kernel
theorem dL_addSpit_8 : decode cL_addSpit 8 = .ok (.i2l, 1) := by decide +kernel
theorem dL_addSpit_9 : decode cL_addSpit 9 = .ok (.lastore, 1) := by decide +kernel
theorem dL_addSpit_10 : decode cL_addSpit 10 = .ok (.goto 15, 3) := by decide +kernel
theorem dL_addSpit_13 : decode cL_addSpit 13 = .ok (.astore 4, 2) := by decide +kernel
theorem dL_addSpit_15 : decode cL_addSpit 15 = .ok (.iconst 1, 1) := by decide +kernel
theorem dL_addSpit_16 : decode cL_addSpit 16 = .ok (.ireturn, 1) := by decide +kernel
theorem dL_addSpit_17 : decode cL_addSpit 17 = .ok (.astore 4, 2) := by decide +kernel
theorem dL_addSpit_19 : decode cL_addSpit 19 = .ok (.iconst 2, 1) := by decide +kernel
theorem dL_addSpit_20 : decode cL_addSpit 20 = .ok (.ireturn, 1) := by decide +kernel
theorem dL_addSpit_21 : decode cL_addSpit 21 = .ok (.astore 4, 2) := by decide +kernel
theorem dL_addSpit_23 : decode cL_addSpit 23 = .ok (.iconst 3, 1) := by decide +kernel
theorem dL_addSpit_24 : decode cL_addSpit 24 = .ok (.ireturn, 1) := by decide +kernel
theorem dL_addSpit_25 : decode cL_addSpit 25 = .ok (.iconst 0, 1) := by decide +kernel
theorem dL_addSpit_26 : decode cL_addSpit 26 = .ok (.ireturn, 1) := by decide +kernel
theorem dL_moveSpit_0 : decode cL_moveSpit 0 = .ok (.aload_n 3, 1) := by decide +kernel
theorem dL_moveSpit_1 : decode cL_moveSpit 1 = .ok (.iconst 0, 1) := by decide +kernel
theorem dL_moveSpit_2 : decode cL_moveSpit 2 = .ok (.aload_n 0, 1) := by decide +kernel
theorem dL_moveSpit_3 : decode cL_moveSpit 3 = .ok (.iload_n 1, 1) := by decide +kernel
theorem dL_moveSpit_4 : decode cL_moveSpit 4 = .ok (.iload_n 2, 1) := by decide +kernel
theorem dL_moveSpit_5 : decode cL_moveSpit 5 = .ok (.invokevirtual 26, 3) := by decide +kernel
theorem dL_moveSpit_8 : decode cL_moveSpit 8 = .ok (.i2l, 1) := by decide +kernel
theorem dL_moveSpit_9 : decode cL_moveSpit 9 = .ok (.lastore, 1) := by decide +kernel
theorem dL_moveSpit_10 : decode cL_moveSpit 10 = .ok (.goto 11, 3) := by decide +kernel
theorem dL_moveSpit_13 : decode cL_moveSpit 13 = .ok (.astore 4, 2) := by decide +kernel
theorem dL_moveSpit_15 : decode cL_moveSpit 15 = .ok (.iconst 1, 1) := by decide +kernel
theorem dL_moveSpit_16 : decode cL_moveSpit 16 = .ok (.ireturn, 1) := by decide +kernel
theorem dL_moveSpit_17 : decode cL_moveSpit 17 = .ok (.astore 4, 2) := by decide +kernel
theorem dL_moveSpit_19 : decode cL_moveSpit 19 = .ok (.iconst 2, 1) := by decide +kernel
theorem dL_moveSpit_20 : decode cL_moveSpit 20 = .ok (.ireturn, 1) := by decide +kernel
theorem dL_moveSpit_21 : decode cL_moveSpit 21 = .ok (.iconst 0, 1) := by decide +kernel
theorem dL_moveSpit_22 : decode cL_moveSpit 22 = .ok (.ireturn, 1) := by decide +kernel
theorem dL_turnEach_0 : decode cL_turnEach 0 = .ok (.aload_n 3, 1) := by decide +kernel
theorem dL_turnEach_1 : decode cL_turnEach 1 = .ok (.iconst 0, 1) := by decide +kernel
theorem dL_turnEach_2 : decode cL_turnEach 2 = .ok (.aload_n 0, 1) := by decide +kernel
theorem dL_turnEach_3 : decode cL_turnEach 3 = .ok (.iload_n 1, 1) := by decide +kernel
theorem dL_turnEach_4 : decode cL_turnEach 4 = .ok (.iload_n 2, 1) := by decide +kernel
theorem dL_turnEach_5 : decode cL_turnEach 5 = .ok (.invokevirtual 29, 3) := by decide +kernel
theorem dL_turnEach_8 : decode cL_turnEach 8 = .ok (.i2l, 1) := by decide +kernel
theorem dL_turnEach_9 : decode cL_turnEach 9 = .ok (.lastore, 1) := by decide +kernel
theorem dL_turnEach_10 : decode cL_turnEach 10 = .ok (.goto 11, 3) := by decide +kernel
theorem dL_turnEach_13 : decode cL_turnEach 13 = .ok (.astore 4, 2) := by decide +kernel
theorem dL_turnEach_15 : decode cL_turnEach 15 = .ok (.iconst 1, 1) := by decide +kernel
theorem dL_turnEach_16 : decode cL_turnEach 16 = .ok (.ireturn, 1) := by decide +kernel
theorem dL_turnEach_17 : decode cL_turnEach 17 = .ok (.astore 4, 2) := by decide +kernel
theorem dL_turnEach_19 : decode cL_turnEach 19 = .ok (.iconst 2, 1) := by decide +kernel
theorem dL_turnEach_20 : decode cL_turnEach 20 = .ok (.ireturn, 1) := by decide +kernel
theorem dL_turnEach_21 : decode cL_turnEach 21 = .ok (.iconst 0, 1) := by decide +kernel
theorem dL_turnEach_22 : decode cL_turnEach 22 = .ok (.ireturn, 1) := by decide +kernel
theorem dL_setFeast_0 : decode cL_setFeast 0 = .ok (.aload_n 2, 1) := by decide +kernel
theorem dL_setFeast_1 : decode cL_setFeast 1 = .ok (.iconst 0, 1) := by decide +kernel
theorem dL_setFeast_2 : decode cL_setFeast 2 = .ok (.aload_n 0, 1) := by decide +kernel
theorem dL_setFeast_3 : decode cL_setFeast 3 = .ok (.iload_n 1, 1) := by decide +kernel
theorem dL_setFeast_4 : decode cL_setFeast 4 = .ok (.invokevirtual 32, 3) := by decide +kernel
theorem dL_setFeast_7 : decode cL_setFeast 7 = .ok (.i2l, 1) := by decide +kernel
theorem dL_setFeast_8 : decode cL_setFeast 8 = .ok (.lastore, 1) := by decide +kernel
theorem dL_setFeast_9 : decode cL_setFeast 9 = .ok (.goto 6, 3) := by decide +kernel
theorem dL_setFeast_12 : decode cL_setFeast 12 = .ok (.astore_n 3, 1) := by decide +kernel
theorem dL_setFeast_13 : decode cL_setFeast 13 = .ok (.iconst 1, 1) := by decide +kernel
theorem dL_setFeast_14 : decode cL_setFeast 14 = .ok (.ireturn, 1) := by decide +kernel
theorem dL_setFeast_15 : decode cL_setFeast 15 = .ok (.iconst 0, 1) := by decide +kernel
theorem dL_setFeast_16 : decode cL_setFeast 16 = .ok (.ireturn, 1) := by decide +kernel
theorem dL_hang_0 : decode cL_hang 0 = .ok (.aload_n 3, 1) := by decide +kernel
theorem dL_hang_1 : decode cL_hang 1 = .ok (.iconst 0, 1) := by decide +kernel
theorem dL_hang_2 : decode cL_hang 2 = .ok (.aload_n 0, 1) := by decide +kernel
theorem dL_hang_3 : decode cL_hang 3 = .ok (.iload_n 1, 1) := by decide +kernel
theorem dL_hang_4 : decode cL_hang 4 = .ok (.iload_n 2, 1) := by decide +kernel
theorem dL_hang_5 : decode cL_hang 5 = .ok (.invokevirtual 36, 3) := by decide +kernel
theorem dL_hang_8 : decode cL_hang 8 = .ok (.i2l, 1) := by decide +kernel
theorem dL_hang_9 : decode cL_hang 9 = .ok (.lastore, 1) := by decide +kernel
theorem dL_hang_10 : decode cL_hang 10 = .ok (.goto 15, 3) := by decide +kernel
theorem dL_hang_13 : decode cL_hang 13 = .ok (.astore 4, 2) := by decide +kernel
theorem dL_hang_15 : decode cL_hang 15 = .ok (.iconst 1, 1) := by decide +kernel
theorem dL_hang_16 : decode cL_hang 16 = .ok (.ireturn, 1) := by decide +kernel
theorem dL_hang_17 : decode cL_hang 17 = .ok (.astore 4, 2) := by decide +kernel
theorem dL_hang_19 : decode cL_hang 19 = .ok (.iconst 2, 1) := by decide +kernel
theorem dL_hang_20 : decode cL_hang 20 = .ok (.ireturn, 1) := by decide +kernel
theorem dL_hang_21 : decode cL_hang 21 = .ok (.astore 4, 2) := by decide +kernel
theorem dL_hang_23 : decode cL_hang 23 = .ok (.iconst 3, 1) := by decide +kernel
theorem dL_hang_24 : decode cL_hang 24 = .ok (.ireturn, 1) := by decide +kernel
theorem dL_hang_25 : decode cL_hang 25 = .ok (.iconst 0, 1) := by decide +kernel
theorem dL_hang_26 : decode cL_hang 26 = .ok (.ireturn, 1) := by decide +kernel
theorem dL_turnNow_0 : decode cL_turnNow 0 = .ok (.aload_n 2, 1) := by decide +kernel
theorem dL_turnNow_1 : decode cL_turnNow 1 = .ok (.iconst 0, 1) := by decide +kernel
theorem dL_turnNow_2 : decode cL_turnNow 2 = .ok (.aload_n 0, 1) := by decide +kernel
theorem dL_turnNow_3 : decode cL_turnNow 3 = .ok (.iload_n 1, 1) := by decide +kernel
theorem dL_turnNow_4 : decode cL_turnNow 4 = .ok (.invokevirtual 39, 3) := by decide +kernel
theorem dL_turnNow_7 : decode cL_turnNow 7 = .ok (.i2l, 1) := by decide +kernel
theorem dL_turnNow_8 : decode cL_turnNow 8 = .ok (.lastore, 1) := by decide +kernel
theorem dL_turnNow_9 : decode cL_turnNow 9 = .ok (.goto 9, 3) := by decide +kernel
theorem dL_turnNow_12 : decode cL_turnNow 12 = .ok (.astore_n 3, 1) := by decide +kernel
theorem dL_turnNow_13 : decode cL_turnNow 13 = .ok (.iconst 1, 1) := by decide +kernel
theorem dL_turnNow_14 : decode cL_turnNow 14 = .ok (.ireturn, 1) := by decide +kernel
theorem dL_turnNow_15 : decode cL_turnNow 15 = .ok (.astore_n 3, 1) := by decide +kernel
theorem dL_turnNow_16 : decode cL_turnNow 16 = .ok (.iconst 2, 1) := by decide +kernel
theorem dL_turnNow_17 : decode cL_turnNow 17 = .ok (.ireturn, 1) := by decide +kernel
theorem dL_turnNow_18 : decode cL_turnNow 18 = .ok (.iconst 0, 1) := by decide +kernel
theorem dL_turnNow_19 : decode cL_turnNow 19 = .ok (.ireturn, 1) := by decide +kernel
theorem dL_baste_0 : decode cL_baste 0 = .ok (.aload_n 2, 1) := by decide +kernel
theorem dL_baste_1 : decode cL_baste 1 = .ok (.iconst 0, 1) := by decide +kernel
theorem dL_baste_2 : decode cL_baste 2 = .ok (.aload_n 0, 1) := by decide +kernel
theorem dL_baste_3 : decode cL_baste 3 = .ok (.iload_n 1, 1) := by decide +kernel
theorem dL_baste_4 : decode cL_baste 4 = .ok (.invokevirtual 42, 3) := by decide +kernel
theorem dL_baste_7 : decode cL_baste 7 = .ok (.i2l, 1) := by decide +kernel
theorem dL_baste_8 : decode cL_baste 8 = .ok (.lastore, 1) := by decide +kernel
theorem dL_baste_9 : decode cL_baste 9 = .ok (.goto 9, 3) := by decide +kernel
theorem dL_baste_12 : decode cL_baste 12 = .ok (.astore_n 3, 1) := by decide +kernel
theorem dL_baste_13 : decode cL_baste 13 = .ok (.iconst 1, 1) := by decide +kernel
theorem dL_baste_14 : decode cL_baste 14 = .ok (.ireturn, 1) := by decide +kernel
theorem dL_baste_15 : decode cL_baste 15 = .ok (.astore_n 3, 1) := by decide +kernel
theorem dL_baste_16 : decode cL_baste 16 = .ok (.iconst 2, 1) := by decide +kernel
theorem dL_baste_17 : decode cL_baste 17 = .ok (.ireturn, 1) := by decide +kernel
theorem dL_baste_18 : decode cL_baste 18 = .ok (.iconst 0, 1) := by decide +kernel
theorem dL_baste_19 : decode cL_baste 19 = .ok (.ireturn, 1) := by decide +kernel
theorem dL_takeDown_0 : decode cL_takeDown 0 = .ok (.aload_n 2, 1) := by decide +kernel
theorem dL_takeDown_1 : decode cL_takeDown 1 = .ok (.iconst 0, 1) := by decide +kernel
theorem dL_takeDown_2 : decode cL_takeDown 2 = .ok (.aload_n 0, 1) := by decide +kernel
theorem dL_takeDown_3 : decode cL_takeDown 3 = .ok (.iload_n 1, 1) := by decide +kernel
theorem dL_takeDown_4 : decode cL_takeDown 4 = .ok (.invokevirtual 45, 3) := by decide +kernel
theorem dL_takeDown_7 : decode cL_takeDown 7 = .ok (.i2l, 1) := by decide +kernel
theorem dL_takeDown_8 : decode cL_takeDown 8 = .ok (.lastore, 1) := by decide +kernel
theorem dL_takeDown_9 : decode cL_takeDown 9 = .ok (.goto 9, 3) := by decide +kernel
theorem dL_takeDown_12 : decode cL_takeDown 12 = .ok (.astore_n 3, 1) := by decide +kernel
theorem dL_takeDown_13 : decode cL_takeDown 13 = .ok (.iconst 1, 1) := by decide +kernel
theorem dL_takeDown_14 : decode cL_takeDown 14 = .ok (.ireturn, 1) := by decide +kernel
theorem dL_takeDown_15 : decode cL_takeDown 15 = .ok (.astore_n 3, 1) := by decide +kernel
theorem dL_takeDown_16 : decode cL_takeDown 16 = .ok (.iconst 2, 1) := by decide +kernel
theorem dL_takeDown_17 : decode cL_takeDown 17 = .ok (.ireturn, 1) := by decide +kernel
theorem dL_takeDown_18 : decode cL_takeDown 18 = .ok (.iconst 0, 1) := by decide +kernel
theorem dL_takeDown_19 : decode cL_takeDown 19 = .ok (.ireturn, 1) := by decide +kernel
theorem dL_emptyPan_0 : decode cL_emptyPan 0 = .ok (.aload_n 2, 1) := by decide +kernel
theorem dL_emptyPan_1 : decode cL_emptyPan 1 = .ok (.iconst 0, 1) := by decide +kernel
theorem dL_emptyPan_2 : decode cL_emptyPan 2 = .ok (.aload_n 0, 1) := by decide +kernel
theorem dL_emptyPan_3 : decode cL_emptyPan 3 = .ok (.iload_n 1, 1) := by decide +kernel
theorem dL_emptyPan_4 : decode cL_emptyPan 4 = .ok (.invokevirtual 48, 3) := by decide +kernel
theorem dL_emptyPan_7 : decode cL_emptyPan 7 = .ok (.i2l, 1) := by decide +kernel
theorem dL_emptyPan_8 : decode cL_emptyPan 8 = .ok (.lastore, 1) := by decide +kernel
theorem dL_emptyPan_9 : decode cL_emptyPan 9 = .ok (.goto 6, 3) := by decide +kernel
theorem dL_emptyPan_12 : decode cL_emptyPan 12 = .ok (.astore_n 3, 1) := by decide +kernel
theorem dL_emptyPan_13 : decode cL_emptyPan 13 = .ok (.iconst 1, 1) := by decide +kernel
theorem dL_emptyPan_14 : decode cL_emptyPan 14 = .ok (.ireturn, 1) := by decide +kernel
theorem dL_emptyPan_15 : decode cL_emptyPan 15 = .ok (.iconst 0, 1) := by decide +kernel
theorem dL_emptyPan_16 : decode cL_emptyPan 16 = .ok (.ireturn, 1) := by decide +kernel
theorem dL_pass_0 : decode cL_pass 0 = .ok (.aload_n 2, 1) := by decide +kernel
theorem dL_pass_1 : decode cL_pass 1 = .ok (.iconst 0, 1) := by decide +kernel
theorem dL_pass_2 : decode cL_pass 2 = .ok (.aload_n 0, 1) := by decide +kernel
theorem dL_pass_3 : decode cL_pass 3 = .ok (.iload_n 1, 1) := by decide +kernel
theorem dL_pass_4 : decode cL_pass 4 = .ok (.invokevirtual 51, 3) := by decide +kernel
theorem dL_pass_7 : decode cL_pass 7 = .ok (.i2l, 1) := by decide +kernel
theorem dL_pass_8 : decode cL_pass 8 = .ok (.lastore, 1) := by decide +kernel
theorem dL_pass_9 : decode cL_pass 9 = .ok (.goto 6, 3) := by decide +kernel
theorem dL_pass_12 : decode cL_pass 12 = .ok (.astore_n 3, 1) := by decide +kernel
theorem dL_pass_13 : decode cL_pass 13 = .ok (.iconst 1, 1) := by decide +kernel
theorem dL_pass_14 : decode cL_pass 14 = .ok (.ireturn, 1) := by decide +kernel
theorem dL_pass_15 : decode cL_pass 15 = .ok (.iconst 0, 1) := by decide +kernel
theorem dL_pass_16 : decode cL_pass 16 = .ok (.ireturn, 1) := by decide +kernel
theorem dL_logsOf_0 : decode cL_logsOf 0 = .ok (.aload_n 2, 1) := by decide +kernel
theorem dL_logsOf_1 : decode cL_logsOf 1 = .ok (.iconst 0, 1) := by decide +kernel
theorem dL_logsOf_2 : decode cL_logsOf 2 = .ok (.aload_n 0, 1) := by decide +kernel
theorem dL_logsOf_3 : decode cL_logsOf 3 = .ok (.iload_n 1, 1) := by decide +kernel
theorem dL_logsOf_4 : decode cL_logsOf 4 = .ok (.invokevirtual 54, 3) := by decide +kernel
theorem dL_logsOf_7 : decode cL_logsOf 7 = .ok (.i2l, 1) := by decide +kernel
theorem dL_logsOf_8 : decode cL_logsOf 8 = .ok (.lastore, 1) := by decide +kernel
theorem dL_logsOf_9 : decode cL_logsOf 9 = .ok (.goto 6, 3) := by decide +kernel
theorem dL_logsOf_12 : decode cL_logsOf 12 = .ok (.astore_n 3, 1) := by decide +kernel
theorem dL_logsOf_13 : decode cL_logsOf 13 = .ok (.iconst 1, 1) := by decide +kernel
theorem dL_logsOf_14 : decode cL_logsOf 14 = .ok (.ireturn, 1) := by decide +kernel
theorem dL_logsOf_15 : decode cL_logsOf 15 = .ok (.iconst 0, 1) := by decide +kernel
theorem dL_logsOf_16 : decode cL_logsOf 16 = .ok (.ireturn, 1) := by decide +kernel
theorem dL_heatOf_0 : decode cL_heatOf 0 = .ok (.aload_n 2, 1) := by decide +kernel
theorem dL_heatOf_1 : decode cL_heatOf 1 = .ok (.iconst 0, 1) := by decide +kernel
theorem dL_heatOf_2 : decode cL_heatOf 2 = .ok (.aload_n 0, 1) := by decide +kernel
theorem dL_heatOf_3 : decode cL_heatOf 3 = .ok (.iload_n 1, 1) := by decide +kernel
theorem dL_heatOf_4 : decode cL_heatOf 4 = .ok (.invokevirtual 57, 3) := by decide +kernel
theorem dL_heatOf_7 : decode cL_heatOf 7 = .ok (.i2l, 1) := by decide +kernel
theorem dL_heatOf_8 : decode cL_heatOf 8 = .ok (.lastore, 1) := by decide +kernel
theorem dL_heatOf_9 : decode cL_heatOf 9 = .ok (.goto 6, 3) := by decide +kernel
theorem dL_heatOf_12 : decode cL_heatOf 12 = .ok (.astore_n 3, 1) := by decide +kernel
theorem dL_heatOf_13 : decode cL_heatOf 13 = .ok (.iconst 1, 1) := by decide +kernel
theorem dL_heatOf_14 : decode cL_heatOf 14 = .ok (.ireturn, 1) := by decide +kernel
theorem dL_heatOf_15 : decode cL_heatOf 15 = .ok (.iconst 0, 1) := by decide +kernel
theorem dL_heatOf_16 : decode cL_heatOf 16 = .ok (.ireturn, 1) := by decide +kernel
theorem dL_fireOf_0 : decode cL_fireOf 0 = .ok (.aload_n 2, 1) := by decide +kernel
theorem dL_fireOf_1 : decode cL_fireOf 1 = .ok (.iconst 0, 1) := by decide +kernel
theorem dL_fireOf_2 : decode cL_fireOf 2 = .ok (.aload_n 0, 1) := by decide +kernel
theorem dL_fireOf_3 : decode cL_fireOf 3 = .ok (.iload_n 1, 1) := by decide +kernel
theorem dL_fireOf_4 : decode cL_fireOf 4 = .ok (.invokevirtual 60, 3) := by decide +kernel
theorem dL_fireOf_7 : decode cL_fireOf 7 = .ok (.i2l, 1) := by decide +kernel
theorem dL_fireOf_8 : decode cL_fireOf 8 = .ok (.lastore, 1) := by decide +kernel
theorem dL_fireOf_9 : decode cL_fireOf 9 = .ok (.goto 6, 3) := by decide +kernel
theorem dL_fireOf_12 : decode cL_fireOf 12 = .ok (.astore_n 3, 1) := by decide +kernel
theorem dL_fireOf_13 : decode cL_fireOf 13 = .ok (.iconst 1, 1) := by decide +kernel
theorem dL_fireOf_14 : decode cL_fireOf 14 = .ok (.ireturn, 1) := by decide +kernel
theorem dL_fireOf_15 : decode cL_fireOf 15 = .ok (.iconst 0, 1) := by decide +kernel
theorem dL_fireOf_16 : decode cL_fireOf 16 = .ok (.ireturn, 1) := by decide +kernel
theorem dL_feetOf_0 : decode cL_feetOf 0 = .ok (.aload_n 2, 1) := by decide +kernel
theorem dL_feetOf_1 : decode cL_feetOf 1 = .ok (.iconst 0, 1) := by decide +kernel
theorem dL_feetOf_2 : decode cL_feetOf 2 = .ok (.aload_n 0, 1) := by decide +kernel
theorem dL_feetOf_3 : decode cL_feetOf 3 = .ok (.iload_n 1, 1) := by decide +kernel
theorem dL_feetOf_4 : decode cL_feetOf 4 = .ok (.invokevirtual 63, 3) := by decide +kernel
theorem dL_feetOf_7 : decode cL_feetOf 7 = .ok (.i2l, 1) := by decide +kernel
theorem dL_feetOf_8 : decode cL_feetOf 8 = .ok (.lastore, 1) := by decide +kernel
theorem dL_feetOf_9 : decode cL_feetOf 9 = .ok (.goto 6, 3) := by decide +kernel
theorem dL_feetOf_12 : decode cL_feetOf 12 = .ok (.astore_n 3, 1) := by decide +kernel
theorem dL_feetOf_13 : decode cL_feetOf 13 = .ok (.iconst 1, 1) := by decide +kernel
theorem dL_feetOf_14 : decode cL_feetOf 14 = .ok (.ireturn, 1) := by decide +kernel
theorem dL_feetOf_15 : decode cL_feetOf 15 = .ok (.iconst 0, 1) := by decide +kernel
theorem dL_feetOf_16 : decode cL_feetOf 16 = .ok (.ireturn, 1) := by decide +kernel
theorem dL_glowAt_0 : decode cL_glowAt 0 = .ok (.aload_n 2, 1) := by decide +kernel
theorem dL_glowAt_1 : decode cL_glowAt 1 = .ok (.iconst 0, 1) := by decide +kernel
theorem dL_glowAt_2 : decode cL_glowAt 2 = .ok (.aload_n 0, 1) := by decide +kernel
theorem dL_glowAt_3 : decode cL_glowAt 3 = .ok (.iload_n 1, 1) := by decide +kernel
theorem dL_glowAt_4 : decode cL_glowAt 4 = .ok (.invokevirtual 66, 3) := by decide +kernel
theorem dL_glowAt_7 : decode cL_glowAt 7 = .ok (.i2l, 1) := by decide +kernel
theorem dL_glowAt_8 : decode cL_glowAt 8 = .ok (.lastore, 1) := by decide +kernel
theorem dL_glowAt_9 : decode cL_glowAt 9 = .ok (.goto 6, 3) := by decide +kernel
theorem dL_glowAt_12 : decode cL_glowAt 12 = .ok (.astore_n 3, 1) := by decide +kernel
theorem dL_glowAt_13 : decode cL_glowAt 13 = .ok (.iconst 1, 1) := by decide +kernel
theorem dL_glowAt_14 : decode cL_glowAt 14 = .ok (.ireturn, 1) := by decide +kernel
theorem dL_glowAt_15 : decode cL_glowAt 15 = .ok (.iconst 0, 1) := by decide +kernel
theorem dL_glowAt_16 : decode cL_glowAt 16 = .ok (.ireturn, 1) := by decide +kernel
theorem dL_turnedEach_0 : decode cL_turnedEach 0 = .ok (.aload_n 2, 1) := by decide +kernel
theorem dL_turnedEach_1 : decode cL_turnedEach 1 = .ok (.iconst 0, 1) := by decide +kernel
theorem dL_turnedEach_2 : decode cL_turnedEach 2 = .ok (.aload_n 0, 1) := by decide +kernel
theorem dL_turnedEach_3 : decode cL_turnedEach 3 = .ok (.iload_n 1, 1) := by decide +kernel
theorem dL_turnedEach_4 : decode cL_turnedEach 4 = .ok (.invokevirtual 69, 3) := by decide +kernel
theorem dL_turnedEach_7 : decode cL_turnedEach 7 = .ok (.i2l, 1) := by decide +kernel
theorem dL_turnedEach_8 : decode cL_turnedEach 8 = .ok (.lastore, 1) := by decide +kernel
theorem dL_turnedEach_9 : decode cL_turnedEach 9 = .ok (.goto 6, 3) := by decide +kernel
theorem dL_turnedEach_12 : decode cL_turnedEach 12 = .ok (.astore_n 3, 1) := by decide +kernel
theorem dL_turnedEach_13 : decode cL_turnedEach 13 = .ok (.iconst 1, 1) := by decide +kernel
theorem dL_turnedEach_14 : decode cL_turnedEach 14 = .ok (.ireturn, 1) := by decide +kernel
theorem dL_turnedEach_15 : decode cL_turnedEach 15 = .ok (.iconst 0, 1) := by decide +kernel
theorem dL_turnedEach_16 : decode cL_turnedEach 16 = .ok (.ireturn, 1) := by decide +kernel
theorem dL_drippingsOf_0 : decode cL_drippingsOf 0 = .ok (.aload_n 2, 1) := by decide +kernel
theorem dL_drippingsOf_1 : decode cL_drippingsOf 1 = .ok (.iconst 0, 1) := by decide +kernel
theorem dL_drippingsOf_2 : decode cL_drippingsOf 2 = .ok (.aload_n 0, 1) := by decide +kernel
theorem dL_drippingsOf_3 : decode cL_drippingsOf 3 = .ok (.iload_n 1, 1) := by decide +kernel
theorem dL_drippingsOf_4 : decode cL_drippingsOf 4 = .ok (.invokevirtual 72, 3) := by decide +kernel
theorem dL_drippingsOf_7 : decode cL_drippingsOf 7 = .ok (.i2l, 1) := by decide +kernel
theorem dL_drippingsOf_8 : decode cL_drippingsOf 8 = .ok (.lastore, 1) := by decide +kernel
theorem dL_drippingsOf_9 : decode cL_drippingsOf 9 = .ok (.goto 6, 3) := by decide +kernel
theorem dL_drippingsOf_12 : decode cL_drippingsOf 12 = .ok (.astore_n 3, 1) := by decide +kernel
theorem dL_drippingsOf_13 : decode cL_drippingsOf 13 = .ok (.iconst 1, 1) := by decide +kernel
theorem dL_drippingsOf_14 : decode cL_drippingsOf 14 = .ok (.ireturn, 1) := by decide +kernel
theorem dL_drippingsOf_15 : decode cL_drippingsOf 15 = .ok (.iconst 0, 1) := by decide +kernel
theorem dL_drippingsOf_16 : decode cL_drippingsOf 16 = .ok (.ireturn, 1) := by decide +kernel
theorem dL_roastOn_0 : decode cL_roastOn 0 = .ok (.aload_n 2, 1) := by decide +kernel
theorem dL_roastOn_1 : decode cL_roastOn 1 = .ok (.iconst 0, 1) := by decide +kernel
theorem dL_roastOn_2 : decode cL_roastOn 2 = .ok (.aload_n 0, 1) := by decide +kernel
theorem dL_roastOn_3 : decode cL_roastOn 3 = .ok (.iload_n 1, 1) := by decide +kernel
theorem dL_roastOn_4 : decode cL_roastOn 4 = .ok (.invokevirtual 75, 3) := by decide +kernel
theorem dL_roastOn_7 : decode cL_roastOn 7 = .ok (.i2l, 1) := by decide +kernel
theorem dL_roastOn_8 : decode cL_roastOn 8 = .ok (.lastore, 1) := by decide +kernel
theorem dL_roastOn_9 : decode cL_roastOn 9 = .ok (.goto 6, 3) := by decide +kernel
theorem dL_roastOn_12 : decode cL_roastOn 12 = .ok (.astore_n 3, 1) := by decide +kernel
theorem dL_roastOn_13 : decode cL_roastOn 13 = .ok (.iconst 1, 1) := by decide +kernel
theorem dL_roastOn_14 : decode cL_roastOn 14 = .ok (.ireturn, 1) := by decide +kernel
theorem dL_roastOn_15 : decode cL_roastOn 15 = .ok (.iconst 0, 1) := by decide +kernel
theorem dL_roastOn_16 : decode cL_roastOn 16 = .ok (.ireturn, 1) := by decide +kernel
theorem dL_poundsOf_0 : decode cL_poundsOf 0 = .ok (.aload_n 2, 1) := by decide +kernel
theorem dL_poundsOf_1 : decode cL_poundsOf 1 = .ok (.iconst 0, 1) := by decide +kernel
theorem dL_poundsOf_2 : decode cL_poundsOf 2 = .ok (.aload_n 0, 1) := by decide +kernel
theorem dL_poundsOf_3 : decode cL_poundsOf 3 = .ok (.iload_n 1, 1) := by decide +kernel
theorem dL_poundsOf_4 : decode cL_poundsOf 4 = .ok (.invokevirtual 78, 3) := by decide +kernel
theorem dL_poundsOf_7 : decode cL_poundsOf 7 = .ok (.i2l, 1) := by decide +kernel
theorem dL_poundsOf_8 : decode cL_poundsOf 8 = .ok (.lastore, 1) := by decide +kernel
theorem dL_poundsOf_9 : decode cL_poundsOf 9 = .ok (.goto 6, 3) := by decide +kernel
theorem dL_poundsOf_12 : decode cL_poundsOf 12 = .ok (.astore_n 3, 1) := by decide +kernel
theorem dL_poundsOf_13 : decode cL_poundsOf 13 = .ok (.iconst 1, 1) := by decide +kernel
theorem dL_poundsOf_14 : decode cL_poundsOf 14 = .ok (.ireturn, 1) := by decide +kernel
theorem dL_poundsOf_15 : decode cL_poundsOf 15 = .ok (.iconst 0, 1) := by decide +kernel
theorem dL_poundsOf_16 : decode cL_poundsOf 16 = .ok (.ireturn, 1) := by decide +kernel
theorem dL_spitOf_0 : decode cL_spitOf 0 = .ok (.aload_n 2, 1) := by decide +kernel
theorem dL_spitOf_1 : decode cL_spitOf 1 = .ok (.iconst 0, 1) := by decide +kernel
theorem dL_spitOf_2 : decode cL_spitOf 2 = .ok (.aload_n 0, 1) := by decide +kernel
theorem dL_spitOf_3 : decode cL_spitOf 3 = .ok (.iload_n 1, 1) := by decide +kernel
theorem dL_spitOf_4 : decode cL_spitOf 4 = .ok (.invokevirtual 81, 3) := by decide +kernel
theorem dL_spitOf_7 : decode cL_spitOf 7 = .ok (.i2l, 1) := by decide +kernel
theorem dL_spitOf_8 : decode cL_spitOf 8 = .ok (.lastore, 1) := by decide +kernel
theorem dL_spitOf_9 : decode cL_spitOf 9 = .ok (.goto 6, 3) := by decide +kernel
theorem dL_spitOf_12 : decode cL_spitOf 12 = .ok (.astore_n 3, 1) := by decide +kernel
theorem dL_spitOf_13 : decode cL_spitOf 13 = .ok (.iconst 1, 1) := by decide +kernel
theorem dL_spitOf_14 : decode cL_spitOf 14 = .ok (.ireturn, 1) := by decide +kernel
theorem dL_spitOf_15 : decode cL_spitOf 15 = .ok (.iconst 0, 1) := by decide +kernel
theorem dL_spitOf_16 : decode cL_spitOf 16 = .ok (.ireturn, 1) := by decide +kernel
theorem dL_sideToFire_0 : decode cL_sideToFire 0 = .ok (.aload_n 2, 1) := by decide +kernel
theorem dL_sideToFire_1 : decode cL_sideToFire 1 = .ok (.iconst 0, 1) := by decide +kernel
theorem dL_sideToFire_2 : decode cL_sideToFire 2 = .ok (.aload_n 0, 1) := by decide +kernel
theorem dL_sideToFire_3 : decode cL_sideToFire 3 = .ok (.iload_n 1, 1) := by decide +kernel
theorem dL_sideToFire_4 : decode cL_sideToFire 4 = .ok (.invokevirtual 84, 3) := by decide +kernel
theorem dL_sideToFire_7 : decode cL_sideToFire 7 = .ok (.i2l, 1) := by decide +kernel
theorem dL_sideToFire_8 : decode cL_sideToFire 8 = .ok (.lastore, 1) := by decide +kernel
theorem dL_sideToFire_9 : decode cL_sideToFire 9 = .ok (.goto 6, 3) := by decide +kernel
theorem dL_sideToFire_12 : decode cL_sideToFire 12 = .ok (.astore_n 3, 1) := by decide +kernel
theorem dL_sideToFire_13 : decode cL_sideToFire 13 = .ok (.iconst 1, 1) := by decide +kernel
theorem dL_sideToFire_14 : decode cL_sideToFire 14 = .ok (.ireturn, 1) := by decide +kernel
theorem dL_sideToFire_15 : decode cL_sideToFire 15 = .ok (.iconst 0, 1) := by decide +kernel
theorem dL_sideToFire_16 : decode cL_sideToFire 16 = .ok (.ireturn, 1) := by decide +kernel
theorem dL_brownOf_0 : decode cL_brownOf 0 = .ok (.aload_n 3, 1) := by decide +kernel
theorem dL_brownOf_1 : decode cL_brownOf 1 = .ok (.iconst 0, 1) := by decide +kernel
theorem dL_brownOf_2 : decode cL_brownOf 2 = .ok (.aload_n 0, 1) := by decide +kernel
theorem dL_brownOf_3 : decode cL_brownOf 3 = .ok (.iload_n 1, 1) := by decide +kernel
theorem dL_brownOf_4 : decode cL_brownOf 4 = .ok (.iload_n 2, 1) := by decide +kernel
theorem dL_brownOf_5 : decode cL_brownOf 5 = .ok (.invokevirtual 87, 3) := by decide +kernel
theorem dL_brownOf_8 : decode cL_brownOf 8 = .ok (.i2l, 1) := by decide +kernel
theorem dL_brownOf_9 : decode cL_brownOf 9 = .ok (.lastore, 1) := by decide +kernel
theorem dL_brownOf_10 : decode cL_brownOf 10 = .ok (.goto 7, 3) := by decide +kernel
theorem dL_brownOf_13 : decode cL_brownOf 13 = .ok (.astore 4, 2) := by decide +kernel
theorem dL_brownOf_15 : decode cL_brownOf 15 = .ok (.iconst 1, 1) := by decide +kernel
theorem dL_brownOf_16 : decode cL_brownOf 16 = .ok (.ireturn, 1) := by decide +kernel
theorem dL_brownOf_17 : decode cL_brownOf 17 = .ok (.iconst 0, 1) := by decide +kernel
theorem dL_brownOf_18 : decode cL_brownOf 18 = .ok (.ireturn, 1) := by decide +kernel
theorem dL_fatOf_0 : decode cL_fatOf 0 = .ok (.aload_n 2, 1) := by decide +kernel
theorem dL_fatOf_1 : decode cL_fatOf 1 = .ok (.iconst 0, 1) := by decide +kernel
theorem dL_fatOf_2 : decode cL_fatOf 2 = .ok (.aload_n 0, 1) := by decide +kernel
theorem dL_fatOf_3 : decode cL_fatOf 3 = .ok (.iload_n 1, 1) := by decide +kernel
theorem dL_fatOf_4 : decode cL_fatOf 4 = .ok (.invokevirtual 90, 3) := by decide +kernel
theorem dL_fatOf_7 : decode cL_fatOf 7 = .ok (.i2l, 1) := by decide +kernel
theorem dL_fatOf_8 : decode cL_fatOf 8 = .ok (.lastore, 1) := by decide +kernel
theorem dL_fatOf_9 : decode cL_fatOf 9 = .ok (.goto 6, 3) := by decide +kernel
theorem dL_fatOf_12 : decode cL_fatOf 12 = .ok (.astore_n 3, 1) := by decide +kernel
theorem dL_fatOf_13 : decode cL_fatOf 13 = .ok (.iconst 1, 1) := by decide +kernel
theorem dL_fatOf_14 : decode cL_fatOf 14 = .ok (.ireturn, 1) := by decide +kernel
theorem dL_fatOf_15 : decode cL_fatOf 15 = .ok (.iconst 0, 1) := by decide +kernel
theorem dL_fatOf_16 : decode cL_fatOf 16 = .ok (.ireturn, 1) := by decide +kernel
theorem dL_wetFor_0 : decode cL_wetFor 0 = .ok (.aload_n 2, 1) := by decide +kernel
theorem dL_wetFor_1 : decode cL_wetFor 1 = .ok (.iconst 0, 1) := by decide +kernel
theorem dL_wetFor_2 : decode cL_wetFor 2 = .ok (.aload_n 0, 1) := by decide +kernel
theorem dL_wetFor_3 : decode cL_wetFor 3 = .ok (.iload_n 1, 1) := by decide +kernel
theorem dL_wetFor_4 : decode cL_wetFor 4 = .ok (.invokevirtual 93, 3) := by decide +kernel
theorem dL_wetFor_7 : decode cL_wetFor 7 = .ok (.i2l, 1) := by decide +kernel
theorem dL_wetFor_8 : decode cL_wetFor 8 = .ok (.lastore, 1) := by decide +kernel
theorem dL_wetFor_9 : decode cL_wetFor 9 = .ok (.goto 6, 3) := by decide +kernel
theorem dL_wetFor_12 : decode cL_wetFor 12 = .ok (.astore_n 3, 1) := by decide +kernel
theorem dL_wetFor_13 : decode cL_wetFor 13 = .ok (.iconst 1, 1) := by decide +kernel
theorem dL_wetFor_14 : decode cL_wetFor 14 = .ok (.ireturn, 1) := by decide +kernel
theorem dL_wetFor_15 : decode cL_wetFor 15 = .ok (.iconst 0, 1) := by decide +kernel
theorem dL_wetFor_16 : decode cL_wetFor 16 = .ok (.ireturn, 1) := by decide +kernel
theorem dL_isDone_0 : decode cL_isDone 0 = .ok (.aload_n 2, 1) := by decide +kernel
theorem dL_isDone_1 : decode cL_isDone 1 = .ok (.iconst 0, 1) := by decide +kernel
theorem dL_isDone_2 : decode cL_isDone 2 = .ok (.aload_n 0, 1) := by decide +kernel
theorem dL_isDone_3 : decode cL_isDone 3 = .ok (.iload_n 1, 1) := by decide +kernel
theorem dL_isDone_4 : decode cL_isDone 4 = .ok (.invokevirtual 96, 3) := by decide +kernel
theorem dL_isDone_7 : decode cL_isDone 7 = .ok (.ifCond .eq 7, 3) := by decide +kernel
theorem dL_isDone_10 : decode cL_isDone 10 = .ok (.lconst 1, 1) := by decide +kernel
theorem dL_isDone_11 : decode cL_isDone 11 = .ok (.goto 4, 3) := by decide +kernel
theorem dL_isDone_14 : decode cL_isDone 14 = .ok (.lconst 0, 1) := by decide +kernel
theorem dL_isDone_15 : decode cL_isDone 15 = .ok (.lastore, 1) := by decide +kernel
theorem dL_isDone_16 : decode cL_isDone 16 = .ok (.goto 6, 3) := by decide +kernel
theorem dL_isDone_19 : decode cL_isDone 19 = .ok (.astore_n 3, 1) := by decide +kernel
theorem dL_isDone_20 : decode cL_isDone 20 = .ok (.iconst 1, 1) := by decide +kernel
theorem dL_isDone_21 : decode cL_isDone 21 = .ok (.ireturn, 1) := by decide +kernel
theorem dL_isDone_22 : decode cL_isDone 22 = .ok (.iconst 0, 1) := by decide +kernel
theorem dL_isDone_23 : decode cL_isDone 23 = .ok (.ireturn, 1) := by decide +kernel
theorem dL_isBurnt_0 : decode cL_isBurnt 0 = .ok (.aload_n 2, 1) := by decide +kernel
theorem dL_isBurnt_1 : decode cL_isBurnt 1 = .ok (.iconst 0, 1) := by decide +kernel
theorem dL_isBurnt_2 : decode cL_isBurnt 2 = .ok (.aload_n 0, 1) := by decide +kernel
theorem dL_isBurnt_3 : decode cL_isBurnt 3 = .ok (.iload_n 1, 1) := by decide +kernel
theorem dL_isBurnt_4 : decode cL_isBurnt 4 = .ok (.invokevirtual 100, 3) := by decide +kernel
theorem dL_isBurnt_7 : decode cL_isBurnt 7 = .ok (.ifCond .eq 7, 3) := by decide +kernel
theorem dL_isBurnt_10 : decode cL_isBurnt 10 = .ok (.lconst 1, 1) := by decide +kernel
theorem dL_isBurnt_11 : decode cL_isBurnt 11 = .ok (.goto 4, 3) := by decide +kernel
theorem dL_isBurnt_14 : decode cL_isBurnt 14 = .ok (.lconst 0, 1) := by decide +kernel
theorem dL_isBurnt_15 : decode cL_isBurnt 15 = .ok (.lastore, 1) := by decide +kernel
theorem dL_isBurnt_16 : decode cL_isBurnt 16 = .ok (.goto 6, 3) := by decide +kernel
theorem dL_isBurnt_19 : decode cL_isBurnt 19 = .ok (.astore_n 3, 1) := by decide +kernel
theorem dL_isBurnt_20 : decode cL_isBurnt 20 = .ok (.iconst 1, 1) := by decide +kernel
theorem dL_isBurnt_21 : decode cL_isBurnt 21 = .ok (.ireturn, 1) := by decide +kernel
theorem dL_isBurnt_22 : decode cL_isBurnt 22 = .ok (.iconst 0, 1) := by decide +kernel
theorem dL_isBurnt_23 : decode cL_isBurnt 23 = .ok (.ireturn, 1) := by decide +kernel
theorem dL_minutesUntilDone_0 : decode cL_minutesUntilDone 0 = .ok (.aload_n 2, 1) := by decide +kernel
theorem dL_minutesUntilDone_1 : decode cL_minutesUntilDone 1 = .ok (.iconst 0, 1) := by decide +kernel
theorem dL_minutesUntilDone_2 : decode cL_minutesUntilDone 2 = .ok (.aload_n 0, 1) := by decide +kernel
theorem dL_minutesUntilDone_3 : decode cL_minutesUntilDone 3 = .ok (.iload_n 1, 1) := by decide +kernel
theorem dL_minutesUntilDone_4 : decode cL_minutesUntilDone 4 = .ok (.invokevirtual 103, 3) := by decide +kernel
theorem dL_minutesUntilDone_7 : decode cL_minutesUntilDone 7 = .ok (.i2l, 1) := by decide +kernel
theorem dL_minutesUntilDone_8 : decode cL_minutesUntilDone 8 = .ok (.lastore, 1) := by decide +kernel
theorem dL_minutesUntilDone_9 : decode cL_minutesUntilDone 9 = .ok (.goto 6, 3) := by decide +kernel
theorem dL_minutesUntilDone_12 : decode cL_minutesUntilDone 12 = .ok (.astore_n 3, 1) := by decide +kernel
theorem dL_minutesUntilDone_13 : decode cL_minutesUntilDone 13 = .ok (.iconst 1, 1) := by decide +kernel
theorem dL_minutesUntilDone_14 : decode cL_minutesUntilDone 14 = .ok (.ireturn, 1) := by decide +kernel
theorem dL_minutesUntilDone_15 : decode cL_minutesUntilDone 15 = .ok (.iconst 0, 1) := by decide +kernel
theorem dL_minutesUntilDone_16 : decode cL_minutesUntilDone 16 = .ok (.ireturn, 1) := by decide +kernel
theorem dL_minutesUntilBurnt_0 : decode cL_minutesUntilBurnt 0 = .ok (.aload_n 2, 1) := by decide +kernel
theorem dL_minutesUntilBurnt_1 : decode cL_minutesUntilBurnt 1 = .ok (.iconst 0, 1) := by decide +kernel
theorem dL_minutesUntilBurnt_2 : decode cL_minutesUntilBurnt 2 = .ok (.aload_n 0, 1) := by decide +kernel
theorem dL_minutesUntilBurnt_3 : decode cL_minutesUntilBurnt 3 = .ok (.iload_n 1, 1) := by decide +kernel
theorem dL_minutesUntilBurnt_4 : decode cL_minutesUntilBurnt 4 = .ok (.invokevirtual 106, 3) := by decide +kernel
theorem dL_minutesUntilBurnt_7 : decode cL_minutesUntilBurnt 7 = .ok (.i2l, 1) := by decide +kernel
theorem dL_minutesUntilBurnt_8 : decode cL_minutesUntilBurnt 8 = .ok (.lastore, 1) := by decide +kernel
theorem dL_minutesUntilBurnt_9 : decode cL_minutesUntilBurnt 9 = .ok (.goto 6, 3) := by decide +kernel
theorem dL_minutesUntilBurnt_12 : decode cL_minutesUntilBurnt 12 = .ok (.astore_n 3, 1) := by decide +kernel
theorem dL_minutesUntilBurnt_13 : decode cL_minutesUntilBurnt 13 = .ok (.iconst 1, 1) := by decide +kernel
theorem dL_minutesUntilBurnt_14 : decode cL_minutesUntilBurnt 14 = .ok (.ireturn, 1) := by decide +kernel
theorem dL_minutesUntilBurnt_15 : decode cL_minutesUntilBurnt 15 = .ok (.iconst 0, 1) := by decide +kernel
theorem dL_minutesUntilBurnt_16 : decode cL_minutesUntilBurnt 16 = .ok (.ireturn, 1) := by decide +kernel
theorem dL_bestEach_0 : decode cL_bestEach 0 = .ok (.aload_n 2, 1) := by decide +kernel
theorem dL_bestEach_1 : decode cL_bestEach 1 = .ok (.iconst 0, 1) := by decide +kernel
theorem dL_bestEach_2 : decode cL_bestEach 2 = .ok (.aload_n 0, 1) := by decide +kernel
theorem dL_bestEach_3 : decode cL_bestEach 3 = .ok (.iload_n 1, 1) := by decide +kernel
theorem dL_bestEach_4 : decode cL_bestEach 4 = .ok (.invokevirtual 109, 3) := by decide +kernel
theorem dL_bestEach_7 : decode cL_bestEach 7 = .ok (.i2l, 1) := by decide +kernel
theorem dL_bestEach_8 : decode cL_bestEach 8 = .ok (.lastore, 1) := by decide +kernel
theorem dL_bestEach_9 : decode cL_bestEach 9 = .ok (.goto 6, 3) := by decide +kernel
theorem dL_bestEach_12 : decode cL_bestEach 12 = .ok (.astore_n 3, 1) := by decide +kernel
theorem dL_bestEach_13 : decode cL_bestEach 13 = .ok (.iconst 1, 1) := by decide +kernel
theorem dL_bestEach_14 : decode cL_bestEach 14 = .ok (.ireturn, 1) := by decide +kernel
theorem dL_bestEach_15 : decode cL_bestEach 15 = .ok (.iconst 0, 1) := by decide +kernel
theorem dL_bestEach_16 : decode cL_bestEach 16 = .ok (.ireturn, 1) := by decide +kernel
theorem dL_bestSpit_0 : decode cL_bestSpit 0 = .ok (.aload_n 2, 1) := by decide +kernel
theorem dL_bestSpit_1 : decode cL_bestSpit 1 = .ok (.iconst 0, 1) := by decide +kernel
theorem dL_bestSpit_2 : decode cL_bestSpit 2 = .ok (.aload_n 0, 1) := by decide +kernel
theorem dL_bestSpit_3 : decode cL_bestSpit 3 = .ok (.iload_n 1, 1) := by decide +kernel
theorem dL_bestSpit_4 : decode cL_bestSpit 4 = .ok (.invokevirtual 112, 3) := by decide +kernel
theorem dL_bestSpit_7 : decode cL_bestSpit 7 = .ok (.i2l, 1) := by decide +kernel
theorem dL_bestSpit_8 : decode cL_bestSpit 8 = .ok (.lastore, 1) := by decide +kernel
theorem dL_bestSpit_9 : decode cL_bestSpit 9 = .ok (.goto 9, 3) := by decide +kernel
theorem dL_bestSpit_12 : decode cL_bestSpit 12 = .ok (.astore_n 3, 1) := by decide +kernel
theorem dL_bestSpit_13 : decode cL_bestSpit 13 = .ok (.iconst 1, 1) := by decide +kernel
theorem dL_bestSpit_14 : decode cL_bestSpit 14 = .ok (.ireturn, 1) := by decide +kernel
theorem dL_bestSpit_15 : decode cL_bestSpit 15 = .ok (.astore_n 3, 1) := by decide +kernel
theorem dL_bestSpit_16 : decode cL_bestSpit 16 = .ok (.iconst 2, 1) := by decide +kernel
theorem dL_bestSpit_17 : decode cL_bestSpit 17 = .ok (.ireturn, 1) := by decide +kernel
theorem dL_bestSpit_18 : decode cL_bestSpit 18 = .ok (.iconst 0, 1) := by decide +kernel
theorem dL_bestSpit_19 : decode cL_bestSpit 19 = .ok (.ireturn, 1) := by decide +kernel
theorem dL_law_0 : decode cL_law 0 = .ok (.new 8, 3) := by decide +kernel
theorem dL_law_3 : decode cL_law 3 = .ok (.dup, 1) := by decide +kernel
theorem dL_law_4 : decode cL_law 4 = .ok (.invokespecial 115, 3) := by decide +kernel
theorem dL_law_7 : decode cL_law 7 = .ok (.astore_n 1, 1) := by decide +kernel
theorem dL_law_8 : decode cL_law 8 = .ok (.new 116, 3) := by decide +kernel
theorem dL_law_11 : decode cL_law 11 = .ok (.dup, 1) := by decide +kernel
theorem dL_law_12 : decode cL_law 12 = .ok (.invokespecial 118, 3) := by decide +kernel
theorem dL_law_15 : decode cL_law 15 = .ok (.astore_n 2, 1) := by decide +kernel
theorem dL_law_16 : decode cL_law 16 = .ok (.iconst 1, 1) := by decide +kernel
theorem dL_law_17 : decode cL_law 17 = .ok (.newarray .long, 2) := by decide +kernel
theorem dL_law_19 : decode cL_law 19 = .ok (.astore_n 3, 1) := by decide +kernel
theorem dL_law_20 : decode cL_law 20 = .ok (.iconst 0, 1) := by decide +kernel
theorem dL_law_21 : decode cL_law 21 = .ok (.istore 4, 2) := by decide +kernel
theorem dL_law_23 : decode cL_law 23 = .ok (.iload 4, 2) := by decide +kernel
theorem dL_law_25 : decode cL_law 25 = .ok (.aload_n 0, 1) := by decide +kernel
theorem dL_law_26 : decode cL_law 26 = .ok (.arraylength, 1) := by decide +kernel
theorem dL_law_27 : decode cL_law 27 = .ok (.iconst 3, 1) := by decide +kernel
theorem dL_law_28 : decode cL_law 28 = .ok (.isub, 1) := by decide +kernel
theorem dL_law_29 : decode cL_law 29 = .ok (.if_icmp .gt 2188, 3) := by decide +kernel
theorem dL_law_32 : decode cL_law 32 = .ok (.aload_n 0, 1) := by decide +kernel
theorem dL_law_33 : decode cL_law 33 = .ok (.iload 4, 2) := by decide +kernel
theorem dL_law_35 : decode cL_law 35 = .ok (.iaload, 1) := by decide +kernel
theorem dL_law_36 : decode cL_law 36 = .ok (.bipush 63, 2) := by decide +kernel
theorem dL_law_38 : decode cL_law 38 = .ok (.iand, 1) := by decide +kernel
theorem dL_law_39 : decode cL_law 39 = .ok (.tableswitch 2172 0 39 #[173, 217, 285, 353, 421, 489, 545, 613, 669, 725, 781, 837, 893, 906, 919, 932, 988, 1044, 1057, 1113, 1169, 1225, 1281, 1337, 1393, 1406, 1462, 1518, 1574, 1642, 1698, 1754, 1817, 1880, 1936, 1992, 2005, 2061, 2117, 2158], 173) := by decide +kernel
theorem dL_law_212 : decode cL_law 212 = .ok (.aload_n 1, 1) := by decide +kernel
theorem dL_law_213 : decode cL_law 213 = .ok (.aload_n 3, 1) := by decide +kernel
theorem dL_law_214 : decode cL_law 214 = .ok (.invokestatic 119, 3) := by decide +kernel
theorem dL_law_217 : decode cL_law 217 = .ok (.istore 5, 2) := by decide +kernel
theorem dL_law_219 : decode cL_law 219 = .ok (.aload_n 2, 1) := by decide +kernel
theorem dL_law_220 : decode cL_law 220 = .ok (.invokevirtual 124, 3) := by decide +kernel
theorem dL_law_223 : decode cL_law 223 = .ok (.istore 6, 2) := by decide +kernel
theorem dL_law_225 : decode cL_law 225 = .ok (.aload_n 2, 1) := by decide +kernel
theorem dL_law_226 : decode cL_law 226 = .ok (.invokevirtual 125, 3) := by decide +kernel
theorem dL_law_229 : decode cL_law 229 = .ok (.iload 5, 2) := by decide +kernel
theorem dL_law_231 : decode cL_law 231 = .ok (.if_icmp .eq 5, 3) := by decide +kernel
theorem dL_law_234 : decode cL_law 234 = .ok (.iconst 0, 1) := by decide +kernel
theorem dL_law_235 : decode cL_law 235 = .ok (.ireturn, 1) := by decide +kernel
theorem dL_law_236 : decode cL_law 236 = .ok (.iload 5, 2) := by decide +kernel
theorem dL_law_238 : decode cL_law 238 = .ok (.ifCond .ne 15, 3) := by decide +kernel
theorem dL_law_241 : decode cL_law 241 = .ok (.aload_n 3, 1) := by decide +kernel
theorem dL_law_242 : decode cL_law 242 = .ok (.iconst 0, 1) := by decide +kernel
theorem dL_law_243 : decode cL_law 243 = .ok (.laload, 1) := by decide +kernel
theorem dL_law_244 : decode cL_law 244 = .ok (.iload 6, 2) := by decide +kernel
theorem dL_law_246 : decode cL_law 246 = .ok (.i2l, 1) := by decide +kernel
theorem dL_law_247 : decode cL_law 247 = .ok (.lcmp, 1) := by decide +kernel
theorem dL_law_248 : decode cL_law 248 = .ok (.ifCond .eq 5, 3) := by decide +kernel
theorem dL_law_251 : decode cL_law 251 = .ok (.iconst 0, 1) := by decide +kernel
theorem dL_law_252 : decode cL_law 252 = .ok (.ireturn, 1) := by decide +kernel
theorem dL_law_253 : decode cL_law 253 = .ok (.goto 1958, 3) := by decide +kernel
theorem dL_law_256 : decode cL_law 256 = .ok (.aload_n 1, 1) := by decide +kernel
theorem dL_law_257 : decode cL_law 257 = .ok (.aload_n 0, 1) := by decide +kernel
theorem dL_law_258 : decode cL_law 258 = .ok (.iload 4, 2) := by decide +kernel
theorem dL_law_260 : decode cL_law 260 = .ok (.iconst 1, 1) := by decide +kernel
theorem dL_law_261 : decode cL_law 261 = .ok (.iadd, 1) := by decide +kernel
theorem dL_law_262 : decode cL_law 262 = .ok (.iaload, 1) := by decide +kernel
theorem dL_law_263 : decode cL_law 263 = .ok (.aload_n 0, 1) := by decide +kernel
theorem dL_law_264 : decode cL_law 264 = .ok (.iload 4, 2) := by decide +kernel
theorem dL_law_266 : decode cL_law 266 = .ok (.iconst 2, 1) := by decide +kernel
theorem dL_law_267 : decode cL_law 267 = .ok (.iadd, 1) := by decide +kernel
theorem dL_law_268 : decode cL_law 268 = .ok (.iaload, 1) := by decide +kernel
theorem dL_law_269 : decode cL_law 269 = .ok (.aload_n 3, 1) := by decide +kernel
theorem dL_law_270 : decode cL_law 270 = .ok (.invokestatic 128, 3) := by decide +kernel
theorem dL_law_273 : decode cL_law 273 = .ok (.istore 5, 2) := by decide +kernel
theorem dL_law_275 : decode cL_law 275 = .ok (.aload_n 2, 1) := by decide +kernel
theorem dL_law_276 : decode cL_law 276 = .ok (.aload_n 0, 1) := by decide +kernel
theorem dL_law_277 : decode cL_law 277 = .ok (.iload 4, 2) := by decide +kernel
theorem dL_law_279 : decode cL_law 279 = .ok (.iconst 1, 1) := by decide +kernel
theorem dL_law_280 : decode cL_law 280 = .ok (.iadd, 1) := by decide +kernel
theorem dL_law_281 : decode cL_law 281 = .ok (.iaload, 1) := by decide +kernel
theorem dL_law_282 : decode cL_law 282 = .ok (.aload_n 0, 1) := by decide +kernel
theorem dL_law_283 : decode cL_law 283 = .ok (.iload 4, 2) := by decide +kernel
theorem dL_law_285 : decode cL_law 285 = .ok (.iconst 2, 1) := by decide +kernel
theorem dL_law_286 : decode cL_law 286 = .ok (.iadd, 1) := by decide +kernel
theorem dL_law_287 : decode cL_law 287 = .ok (.iaload, 1) := by decide +kernel
theorem dL_law_288 : decode cL_law 288 = .ok (.invokevirtual 131, 3) := by decide +kernel
theorem dL_law_291 : decode cL_law 291 = .ok (.istore 6, 2) := by decide +kernel
theorem dL_law_293 : decode cL_law 293 = .ok (.aload_n 2, 1) := by decide +kernel
theorem dL_law_294 : decode cL_law 294 = .ok (.invokevirtual 125, 3) := by decide +kernel
theorem dL_law_297 : decode cL_law 297 = .ok (.iload 5, 2) := by decide +kernel
theorem dL_law_299 : decode cL_law 299 = .ok (.if_icmp .eq 5, 3) := by decide +kernel
theorem dL_law_302 : decode cL_law 302 = .ok (.iconst 0, 1) := by decide +kernel
theorem dL_law_303 : decode cL_law 303 = .ok (.ireturn, 1) := by decide +kernel
theorem dL_law_304 : decode cL_law 304 = .ok (.iload 5, 2) := by decide +kernel
theorem dL_law_306 : decode cL_law 306 = .ok (.ifCond .ne 15, 3) := by decide +kernel
theorem dL_law_309 : decode cL_law 309 = .ok (.aload_n 3, 1) := by decide +kernel
theorem dL_law_310 : decode cL_law 310 = .ok (.iconst 0, 1) := by decide +kernel
theorem dL_law_311 : decode cL_law 311 = .ok (.laload, 1) := by decide +kernel
theorem dL_law_312 : decode cL_law 312 = .ok (.iload 6, 2) := by decide +kernel
theorem dL_law_314 : decode cL_law 314 = .ok (.i2l, 1) := by decide +kernel
theorem dL_law_315 : decode cL_law 315 = .ok (.lcmp, 1) := by decide +kernel
theorem dL_law_316 : decode cL_law 316 = .ok (.ifCond .eq 5, 3) := by decide +kernel
theorem dL_law_319 : decode cL_law 319 = .ok (.iconst 0, 1) := by decide +kernel
theorem dL_law_320 : decode cL_law 320 = .ok (.ireturn, 1) := by decide +kernel
theorem dL_law_321 : decode cL_law 321 = .ok (.goto 1890, 3) := by decide +kernel
theorem dL_law_324 : decode cL_law 324 = .ok (.aload_n 1, 1) := by decide +kernel
theorem dL_law_325 : decode cL_law 325 = .ok (.aload_n 0, 1) := by decide +kernel
theorem dL_law_326 : decode cL_law 326 = .ok (.iload 4, 2) := by decide +kernel
theorem dL_law_328 : decode cL_law 328 = .ok (.iconst 1, 1) := by decide +kernel
end
section
theorem dL_law_329 : decode cL_law 329 = .ok (.iadd, 1) := by decide +kernel
theorem dL_law_330 : decode cL_law 330 = .ok (.iaload, 1) := by decide +kernel
theorem dL_law_331 : decode cL_law 331 = .ok (.aload_n 0, 1) := by decide +kernel
theorem dL_law_332 : decode cL_law 332 = .ok (.iload 4, 2) := by decide +kernel
theorem dL_law_334 : decode cL_law 334 = .ok (.iconst 2, 1) := by decide +kernel
theorem dL_law_335 : decode cL_law 335 = .ok (.iadd, 1) := by decide +kernel
theorem dL_law_336 : decode cL_law 336 = .ok (.iaload, 1) := by decide +kernel
theorem dL_law_337 : decode cL_law 337 = .ok (.aload_n 3, 1) := by decide +kernel
theorem dL_law_338 : decode cL_law 338 = .ok (.invokestatic 132, 3) := by decide +kernel
theorem dL_law_341 : decode cL_law 341 = .ok (.istore 5, 2) := by decide +kernel
theorem dL_law_343 : decode cL_law 343 = .ok (.aload_n 2, 1) := by decide +kernel
theorem dL_law_344 : decode cL_law 344 = .ok (.aload_n 0, 1) := by decide +kernel
theorem dL_law_345 : decode cL_law 345 = .ok (.iload 4, 2) := by decide +kernel
theorem dL_law_347 : decode cL_law 347 = .ok (.iconst 1, 1) := by decide +kernel
theorem dL_law_348 : decode cL_law 348 = .ok (.iadd, 1) := by decide +kernel
theorem dL_law_349 : decode cL_law 349 = .ok (.iaload, 1) := by decide +kernel
theorem dL_law_350 : decode cL_law 350 = .ok (.aload_n 0, 1) := by decide +kernel
theorem dL_law_351 : decode cL_law 351 = .ok (.iload 4, 2) := by decide +kernel
theorem dL_law_353 : decode cL_law 353 = .ok (.iconst 2, 1) := by decide +kernel
theorem dL_law_354 : decode cL_law 354 = .ok (.iadd, 1) := by decide +kernel
theorem dL_law_355 : decode cL_law 355 = .ok (.iaload, 1) := by decide +kernel
theorem dL_law_356 : decode cL_law 356 = .ok (.invokevirtual 134, 3) := by decide +kernel
theorem dL_law_359 : decode cL_law 359 = .ok (.istore 6, 2) := by decide +kernel
theorem dL_law_361 : decode cL_law 361 = .ok (.aload_n 2, 1) := by decide +kernel
theorem dL_law_362 : decode cL_law 362 = .ok (.invokevirtual 125, 3) := by decide +kernel
theorem dL_law_365 : decode cL_law 365 = .ok (.iload 5, 2) := by decide +kernel
theorem dL_law_367 : decode cL_law 367 = .ok (.if_icmp .eq 5, 3) := by decide +kernel
theorem dL_law_370 : decode cL_law 370 = .ok (.iconst 0, 1) := by decide +kernel
theorem dL_law_371 : decode cL_law 371 = .ok (.ireturn, 1) := by decide +kernel
theorem dL_law_372 : decode cL_law 372 = .ok (.iload 5, 2) := by decide +kernel
theorem dL_law_374 : decode cL_law 374 = .ok (.ifCond .ne 15, 3) := by decide +kernel
theorem dL_law_377 : decode cL_law 377 = .ok (.aload_n 3, 1) := by decide +kernel
theorem dL_law_378 : decode cL_law 378 = .ok (.iconst 0, 1) := by decide +kernel
theorem dL_law_379 : decode cL_law 379 = .ok (.laload, 1) := by decide +kernel
theorem dL_law_380 : decode cL_law 380 = .ok (.iload 6, 2) := by decide +kernel
theorem dL_law_382 : decode cL_law 382 = .ok (.i2l, 1) := by decide +kernel
theorem dL_law_383 : decode cL_law 383 = .ok (.lcmp, 1) := by decide +kernel
theorem dL_law_384 : decode cL_law 384 = .ok (.ifCond .eq 5, 3) := by decide +kernel
theorem dL_law_387 : decode cL_law 387 = .ok (.iconst 0, 1) := by decide +kernel
theorem dL_law_388 : decode cL_law 388 = .ok (.ireturn, 1) := by decide +kernel
theorem dL_law_389 : decode cL_law 389 = .ok (.goto 1822, 3) := by decide +kernel
theorem dL_law_392 : decode cL_law 392 = .ok (.aload_n 1, 1) := by decide +kernel
theorem dL_law_393 : decode cL_law 393 = .ok (.aload_n 0, 1) := by decide +kernel
theorem dL_law_394 : decode cL_law 394 = .ok (.iload 4, 2) := by decide +kernel
theorem dL_law_396 : decode cL_law 396 = .ok (.iconst 1, 1) := by decide +kernel
theorem dL_law_397 : decode cL_law 397 = .ok (.iadd, 1) := by decide +kernel
theorem dL_law_398 : decode cL_law 398 = .ok (.iaload, 1) := by decide +kernel
theorem dL_law_399 : decode cL_law 399 = .ok (.aload_n 0, 1) := by decide +kernel
theorem dL_law_400 : decode cL_law 400 = .ok (.iload 4, 2) := by decide +kernel
theorem dL_law_402 : decode cL_law 402 = .ok (.iconst 2, 1) := by decide +kernel
theorem dL_law_403 : decode cL_law 403 = .ok (.iadd, 1) := by decide +kernel
theorem dL_law_404 : decode cL_law 404 = .ok (.iaload, 1) := by decide +kernel
theorem dL_law_405 : decode cL_law 405 = .ok (.aload_n 3, 1) := by decide +kernel
theorem dL_law_406 : decode cL_law 406 = .ok (.invokestatic 135, 3) := by decide +kernel
theorem dL_law_409 : decode cL_law 409 = .ok (.istore 5, 2) := by decide +kernel
theorem dL_law_411 : decode cL_law 411 = .ok (.aload_n 2, 1) := by decide +kernel
theorem dL_law_412 : decode cL_law 412 = .ok (.aload_n 0, 1) := by decide +kernel
theorem dL_law_413 : decode cL_law 413 = .ok (.iload 4, 2) := by decide +kernel
theorem dL_law_415 : decode cL_law 415 = .ok (.iconst 1, 1) := by decide +kernel
theorem dL_law_416 : decode cL_law 416 = .ok (.iadd, 1) := by decide +kernel
theorem dL_law_417 : decode cL_law 417 = .ok (.iaload, 1) := by decide +kernel
theorem dL_law_418 : decode cL_law 418 = .ok (.aload_n 0, 1) := by decide +kernel
theorem dL_law_419 : decode cL_law 419 = .ok (.iload 4, 2) := by decide +kernel
theorem dL_law_421 : decode cL_law 421 = .ok (.iconst 2, 1) := by decide +kernel
theorem dL_law_422 : decode cL_law 422 = .ok (.iadd, 1) := by decide +kernel
theorem dL_law_423 : decode cL_law 423 = .ok (.iaload, 1) := by decide +kernel
theorem dL_law_424 : decode cL_law 424 = .ok (.invokevirtual 137, 3) := by decide +kernel
theorem dL_law_427 : decode cL_law 427 = .ok (.istore 6, 2) := by decide +kernel
theorem dL_law_429 : decode cL_law 429 = .ok (.aload_n 2, 1) := by decide +kernel
theorem dL_law_430 : decode cL_law 430 = .ok (.invokevirtual 125, 3) := by decide +kernel
theorem dL_law_433 : decode cL_law 433 = .ok (.iload 5, 2) := by decide +kernel
theorem dL_law_435 : decode cL_law 435 = .ok (.if_icmp .eq 5, 3) := by decide +kernel
theorem dL_law_438 : decode cL_law 438 = .ok (.iconst 0, 1) := by decide +kernel
theorem dL_law_439 : decode cL_law 439 = .ok (.ireturn, 1) := by decide +kernel
theorem dL_law_440 : decode cL_law 440 = .ok (.iload 5, 2) := by decide +kernel
theorem dL_law_442 : decode cL_law 442 = .ok (.ifCond .ne 15, 3) := by decide +kernel
theorem dL_law_445 : decode cL_law 445 = .ok (.aload_n 3, 1) := by decide +kernel
theorem dL_law_446 : decode cL_law 446 = .ok (.iconst 0, 1) := by decide +kernel
theorem dL_law_447 : decode cL_law 447 = .ok (.laload, 1) := by decide +kernel
theorem dL_law_448 : decode cL_law 448 = .ok (.iload 6, 2) := by decide +kernel
theorem dL_law_450 : decode cL_law 450 = .ok (.i2l, 1) := by decide +kernel
theorem dL_law_451 : decode cL_law 451 = .ok (.lcmp, 1) := by decide +kernel
theorem dL_law_452 : decode cL_law 452 = .ok (.ifCond .eq 5, 3) := by decide +kernel
theorem dL_law_455 : decode cL_law 455 = .ok (.iconst 0, 1) := by decide +kernel
theorem dL_law_456 : decode cL_law 456 = .ok (.ireturn, 1) := by decide +kernel
theorem dL_law_457 : decode cL_law 457 = .ok (.goto 1754, 3) := by decide +kernel
theorem dL_law_460 : decode cL_law 460 = .ok (.aload_n 1, 1) := by decide +kernel
theorem dL_law_461 : decode cL_law 461 = .ok (.aload_n 0, 1) := by decide +kernel
theorem dL_law_462 : decode cL_law 462 = .ok (.iload 4, 2) := by decide +kernel
theorem dL_law_464 : decode cL_law 464 = .ok (.iconst 1, 1) := by decide +kernel
theorem dL_law_465 : decode cL_law 465 = .ok (.iadd, 1) := by decide +kernel
theorem dL_law_466 : decode cL_law 466 = .ok (.iaload, 1) := by decide +kernel
theorem dL_law_467 : decode cL_law 467 = .ok (.aload_n 0, 1) := by decide +kernel
theorem dL_law_468 : decode cL_law 468 = .ok (.iload 4, 2) := by decide +kernel
theorem dL_law_470 : decode cL_law 470 = .ok (.iconst 2, 1) := by decide +kernel
theorem dL_law_471 : decode cL_law 471 = .ok (.iadd, 1) := by decide +kernel
theorem dL_law_472 : decode cL_law 472 = .ok (.iaload, 1) := by decide +kernel
theorem dL_law_473 : decode cL_law 473 = .ok (.aload_n 3, 1) := by decide +kernel
theorem dL_law_474 : decode cL_law 474 = .ok (.invokestatic 138, 3) := by decide +kernel
theorem dL_law_477 : decode cL_law 477 = .ok (.istore 5, 2) := by decide +kernel
theorem dL_law_479 : decode cL_law 479 = .ok (.aload_n 2, 1) := by decide +kernel
theorem dL_law_480 : decode cL_law 480 = .ok (.aload_n 0, 1) := by decide +kernel
theorem dL_law_481 : decode cL_law 481 = .ok (.iload 4, 2) := by decide +kernel
theorem dL_law_483 : decode cL_law 483 = .ok (.iconst 1, 1) := by decide +kernel
theorem dL_law_484 : decode cL_law 484 = .ok (.iadd, 1) := by decide +kernel
theorem dL_law_485 : decode cL_law 485 = .ok (.iaload, 1) := by decide +kernel
theorem dL_law_486 : decode cL_law 486 = .ok (.aload_n 0, 1) := by decide +kernel
theorem dL_law_487 : decode cL_law 487 = .ok (.iload 4, 2) := by decide +kernel
theorem dL_law_489 : decode cL_law 489 = .ok (.iconst 2, 1) := by decide +kernel
theorem dL_law_490 : decode cL_law 490 = .ok (.iadd, 1) := by decide +kernel
theorem dL_law_491 : decode cL_law 491 = .ok (.iaload, 1) := by decide +kernel
theorem dL_law_492 : decode cL_law 492 = .ok (.invokevirtual 140, 3) := by decide +kernel
theorem dL_law_495 : decode cL_law 495 = .ok (.istore 6, 2) := by decide +kernel
theorem dL_law_497 : decode cL_law 497 = .ok (.aload_n 2, 1) := by decide +kernel
theorem dL_law_498 : decode cL_law 498 = .ok (.invokevirtual 125, 3) := by decide +kernel
theorem dL_law_501 : decode cL_law 501 = .ok (.iload 5, 2) := by decide +kernel
theorem dL_law_503 : decode cL_law 503 = .ok (.if_icmp .eq 5, 3) := by decide +kernel
theorem dL_law_506 : decode cL_law 506 = .ok (.iconst 0, 1) := by decide +kernel
theorem dL_law_507 : decode cL_law 507 = .ok (.ireturn, 1) := by decide +kernel
theorem dL_law_508 : decode cL_law 508 = .ok (.iload 5, 2) := by decide +kernel
theorem dL_law_510 : decode cL_law 510 = .ok (.ifCond .ne 15, 3) := by decide +kernel
theorem dL_law_513 : decode cL_law 513 = .ok (.aload_n 3, 1) := by decide +kernel
theorem dL_law_514 : decode cL_law 514 = .ok (.iconst 0, 1) := by decide +kernel
theorem dL_law_515 : decode cL_law 515 = .ok (.laload, 1) := by decide +kernel
theorem dL_law_516 : decode cL_law 516 = .ok (.iload 6, 2) := by decide +kernel
theorem dL_law_518 : decode cL_law 518 = .ok (.i2l, 1) := by decide +kernel
theorem dL_law_519 : decode cL_law 519 = .ok (.lcmp, 1) := by decide +kernel
theorem dL_law_520 : decode cL_law 520 = .ok (.ifCond .eq 5, 3) := by decide +kernel
theorem dL_law_523 : decode cL_law 523 = .ok (.iconst 0, 1) := by decide +kernel
theorem dL_law_524 : decode cL_law 524 = .ok (.ireturn, 1) := by decide +kernel
theorem dL_law_525 : decode cL_law 525 = .ok (.goto 1686, 3) := by decide +kernel
theorem dL_law_528 : decode cL_law 528 = .ok (.aload_n 1, 1) := by decide +kernel
theorem dL_law_529 : decode cL_law 529 = .ok (.aload_n 0, 1) := by decide +kernel
theorem dL_law_530 : decode cL_law 530 = .ok (.iload 4, 2) := by decide +kernel
theorem dL_law_532 : decode cL_law 532 = .ok (.iconst 1, 1) := by decide +kernel
theorem dL_law_533 : decode cL_law 533 = .ok (.iadd, 1) := by decide +kernel
theorem dL_law_534 : decode cL_law 534 = .ok (.iaload, 1) := by decide +kernel
theorem dL_law_535 : decode cL_law 535 = .ok (.aload_n 3, 1) := by decide +kernel
theorem dL_law_536 : decode cL_law 536 = .ok (.invokestatic 141, 3) := by decide +kernel
theorem dL_law_539 : decode cL_law 539 = .ok (.istore 5, 2) := by decide +kernel
theorem dL_law_541 : decode cL_law 541 = .ok (.aload_n 2, 1) := by decide +kernel
theorem dL_law_542 : decode cL_law 542 = .ok (.aload_n 0, 1) := by decide +kernel
theorem dL_law_543 : decode cL_law 543 = .ok (.iload 4, 2) := by decide +kernel
theorem dL_law_545 : decode cL_law 545 = .ok (.iconst 1, 1) := by decide +kernel
theorem dL_law_546 : decode cL_law 546 = .ok (.iadd, 1) := by decide +kernel
theorem dL_law_547 : decode cL_law 547 = .ok (.iaload, 1) := by decide +kernel
theorem dL_law_548 : decode cL_law 548 = .ok (.invokevirtual 144, 3) := by decide +kernel
theorem dL_law_551 : decode cL_law 551 = .ok (.istore 6, 2) := by decide +kernel
theorem dL_law_553 : decode cL_law 553 = .ok (.aload_n 2, 1) := by decide +kernel
theorem dL_law_554 : decode cL_law 554 = .ok (.invokevirtual 125, 3) := by decide +kernel
theorem dL_law_557 : decode cL_law 557 = .ok (.iload 5, 2) := by decide +kernel
theorem dL_law_559 : decode cL_law 559 = .ok (.if_icmp .eq 5, 3) := by decide +kernel
theorem dL_law_562 : decode cL_law 562 = .ok (.iconst 0, 1) := by decide +kernel
theorem dL_law_563 : decode cL_law 563 = .ok (.ireturn, 1) := by decide +kernel
theorem dL_law_564 : decode cL_law 564 = .ok (.iload 5, 2) := by decide +kernel
theorem dL_law_566 : decode cL_law 566 = .ok (.ifCond .ne 15, 3) := by decide +kernel
theorem dL_law_569 : decode cL_law 569 = .ok (.aload_n 3, 1) := by decide +kernel
theorem dL_law_570 : decode cL_law 570 = .ok (.iconst 0, 1) := by decide +kernel
theorem dL_law_571 : decode cL_law 571 = .ok (.laload, 1) := by decide +kernel
theorem dL_law_572 : decode cL_law 572 = .ok (.iload 6, 2) := by decide +kernel
theorem dL_law_574 : decode cL_law 574 = .ok (.i2l, 1) := by decide +kernel
theorem dL_law_575 : decode cL_law 575 = .ok (.lcmp, 1) := by decide +kernel
theorem dL_law_576 : decode cL_law 576 = .ok (.ifCond .eq 5, 3) := by decide +kernel
theorem dL_law_579 : decode cL_law 579 = .ok (.iconst 0, 1) := by decide +kernel
theorem dL_law_580 : decode cL_law 580 = .ok (.ireturn, 1) := by decide +kernel
theorem dL_law_581 : decode cL_law 581 = .ok (.goto 1630, 3) := by decide +kernel
theorem dL_law_584 : decode cL_law 584 = .ok (.aload_n 1, 1) := by decide +kernel
theorem dL_law_585 : decode cL_law 585 = .ok (.aload_n 0, 1) := by decide +kernel
theorem dL_law_586 : decode cL_law 586 = .ok (.iload 4, 2) := by decide +kernel
theorem dL_law_588 : decode cL_law 588 = .ok (.iconst 1, 1) := by decide +kernel
theorem dL_law_589 : decode cL_law 589 = .ok (.iadd, 1) := by decide +kernel
theorem dL_law_590 : decode cL_law 590 = .ok (.iaload, 1) := by decide +kernel
theorem dL_law_591 : decode cL_law 591 = .ok (.aload_n 0, 1) := by decide +kernel
theorem dL_law_592 : decode cL_law 592 = .ok (.iload 4, 2) := by decide +kernel
theorem dL_law_594 : decode cL_law 594 = .ok (.iconst 2, 1) := by decide +kernel
theorem dL_law_595 : decode cL_law 595 = .ok (.iadd, 1) := by decide +kernel
theorem dL_law_596 : decode cL_law 596 = .ok (.iaload, 1) := by decide +kernel
theorem dL_law_597 : decode cL_law 597 = .ok (.aload_n 3, 1) := by decide +kernel
theorem dL_law_598 : decode cL_law 598 = .ok (.invokestatic 145, 3) := by decide +kernel
theorem dL_law_601 : decode cL_law 601 = .ok (.istore 5, 2) := by decide +kernel
theorem dL_law_603 : decode cL_law 603 = .ok (.aload_n 2, 1) := by decide +kernel
theorem dL_law_604 : decode cL_law 604 = .ok (.aload_n 0, 1) := by decide +kernel
theorem dL_law_605 : decode cL_law 605 = .ok (.iload 4, 2) := by decide +kernel
theorem dL_law_607 : decode cL_law 607 = .ok (.iconst 1, 1) := by decide +kernel
theorem dL_law_608 : decode cL_law 608 = .ok (.iadd, 1) := by decide +kernel
theorem dL_law_609 : decode cL_law 609 = .ok (.iaload, 1) := by decide +kernel
theorem dL_law_610 : decode cL_law 610 = .ok (.aload_n 0, 1) := by decide +kernel
theorem dL_law_611 : decode cL_law 611 = .ok (.iload 4, 2) := by decide +kernel
theorem dL_law_613 : decode cL_law 613 = .ok (.iconst 2, 1) := by decide +kernel
theorem dL_law_614 : decode cL_law 614 = .ok (.iadd, 1) := by decide +kernel
theorem dL_law_615 : decode cL_law 615 = .ok (.iaload, 1) := by decide +kernel
theorem dL_law_616 : decode cL_law 616 = .ok (.invokevirtual 147, 3) := by decide +kernel
theorem dL_law_619 : decode cL_law 619 = .ok (.istore 6, 2) := by decide +kernel
theorem dL_law_621 : decode cL_law 621 = .ok (.aload_n 2, 1) := by decide +kernel
theorem dL_law_622 : decode cL_law 622 = .ok (.invokevirtual 125, 3) := by decide +kernel
theorem dL_law_625 : decode cL_law 625 = .ok (.iload 5, 2) := by decide +kernel
theorem dL_law_627 : decode cL_law 627 = .ok (.if_icmp .eq 5, 3) := by decide +kernel
theorem dL_law_630 : decode cL_law 630 = .ok (.iconst 0, 1) := by decide +kernel
theorem dL_law_631 : decode cL_law 631 = .ok (.ireturn, 1) := by decide +kernel
theorem dL_law_632 : decode cL_law 632 = .ok (.iload 5, 2) := by decide +kernel
theorem dL_law_634 : decode cL_law 634 = .ok (.ifCond .ne 15, 3) := by decide +kernel
theorem dL_law_637 : decode cL_law 637 = .ok (.aload_n 3, 1) := by decide +kernel
theorem dL_law_638 : decode cL_law 638 = .ok (.iconst 0, 1) := by decide +kernel
theorem dL_law_639 : decode cL_law 639 = .ok (.laload, 1) := by decide +kernel
theorem dL_law_640 : decode cL_law 640 = .ok (.iload 6, 2) := by decide +kernel
theorem dL_law_642 : decode cL_law 642 = .ok (.i2l, 1) := by decide +kernel
theorem dL_law_643 : decode cL_law 643 = .ok (.lcmp, 1) := by decide +kernel
theorem dL_law_644 : decode cL_law 644 = .ok (.ifCond .eq 5, 3) := by decide +kernel
theorem dL_law_647 : decode cL_law 647 = .ok (.iconst 0, 1) := by decide +kernel
theorem dL_law_648 : decode cL_law 648 = .ok (.ireturn, 1) := by decide +kernel
theorem dL_law_649 : decode cL_law 649 = .ok (.goto 1562, 3) := by decide +kernel
theorem dL_law_652 : decode cL_law 652 = .ok (.aload_n 1, 1) := by decide +kernel
theorem dL_law_653 : decode cL_law 653 = .ok (.aload_n 0, 1) := by decide +kernel
theorem dL_law_654 : decode cL_law 654 = .ok (.iload 4, 2) := by decide +kernel
theorem dL_law_656 : decode cL_law 656 = .ok (.iconst 1, 1) := by decide +kernel
theorem dL_law_657 : decode cL_law 657 = .ok (.iadd, 1) := by decide +kernel
theorem dL_law_658 : decode cL_law 658 = .ok (.iaload, 1) := by decide +kernel
theorem dL_law_659 : decode cL_law 659 = .ok (.aload_n 3, 1) := by decide +kernel
theorem dL_law_660 : decode cL_law 660 = .ok (.invokestatic 148, 3) := by decide +kernel
theorem dL_law_663 : decode cL_law 663 = .ok (.istore 5, 2) := by decide +kernel
theorem dL_law_665 : decode cL_law 665 = .ok (.aload_n 2, 1) := by decide +kernel
theorem dL_law_666 : decode cL_law 666 = .ok (.aload_n 0, 1) := by decide +kernel
theorem dL_law_667 : decode cL_law 667 = .ok (.iload 4, 2) := by decide +kernel
theorem dL_law_669 : decode cL_law 669 = .ok (.iconst 1, 1) := by decide +kernel
theorem dL_law_670 : decode cL_law 670 = .ok (.iadd, 1) := by decide +kernel
theorem dL_law_671 : decode cL_law 671 = .ok (.iaload, 1) := by decide +kernel
theorem dL_law_672 : decode cL_law 672 = .ok (.invokevirtual 150, 3) := by decide +kernel
theorem dL_law_675 : decode cL_law 675 = .ok (.istore 6, 2) := by decide +kernel
theorem dL_law_677 : decode cL_law 677 = .ok (.aload_n 2, 1) := by decide +kernel
theorem dL_law_678 : decode cL_law 678 = .ok (.invokevirtual 125, 3) := by decide +kernel
theorem dL_law_681 : decode cL_law 681 = .ok (.iload 5, 2) := by decide +kernel
theorem dL_law_683 : decode cL_law 683 = .ok (.if_icmp .eq 5, 3) := by decide +kernel
theorem dL_law_686 : decode cL_law 686 = .ok (.iconst 0, 1) := by decide +kernel
theorem dL_law_687 : decode cL_law 687 = .ok (.ireturn, 1) := by decide +kernel
theorem dL_law_688 : decode cL_law 688 = .ok (.iload 5, 2) := by decide +kernel
theorem dL_law_690 : decode cL_law 690 = .ok (.ifCond .ne 15, 3) := by decide +kernel
theorem dL_law_693 : decode cL_law 693 = .ok (.aload_n 3, 1) := by decide +kernel
theorem dL_law_694 : decode cL_law 694 = .ok (.iconst 0, 1) := by decide +kernel
theorem dL_law_695 : decode cL_law 695 = .ok (.laload, 1) := by decide +kernel
theorem dL_law_696 : decode cL_law 696 = .ok (.iload 6, 2) := by decide +kernel
theorem dL_law_698 : decode cL_law 698 = .ok (.i2l, 1) := by decide +kernel
theorem dL_law_699 : decode cL_law 699 = .ok (.lcmp, 1) := by decide +kernel
theorem dL_law_700 : decode cL_law 700 = .ok (.ifCond .eq 5, 3) := by decide +kernel
theorem dL_law_703 : decode cL_law 703 = .ok (.iconst 0, 1) := by decide +kernel
theorem dL_law_704 : decode cL_law 704 = .ok (.ireturn, 1) := by decide +kernel
theorem dL_law_705 : decode cL_law 705 = .ok (.goto 1506, 3) := by decide +kernel
theorem dL_law_708 : decode cL_law 708 = .ok (.aload_n 1, 1) := by decide +kernel
theorem dL_law_709 : decode cL_law 709 = .ok (.aload_n 0, 1) := by decide +kernel
theorem dL_law_710 : decode cL_law 710 = .ok (.iload 4, 2) := by decide +kernel
theorem dL_law_712 : decode cL_law 712 = .ok (.iconst 1, 1) := by decide +kernel
theorem dL_law_713 : decode cL_law 713 = .ok (.iadd, 1) := by decide +kernel
theorem dL_law_714 : decode cL_law 714 = .ok (.iaload, 1) := by decide +kernel
theorem dL_law_715 : decode cL_law 715 = .ok (.aload_n 3, 1) := by decide +kernel
theorem dL_law_716 : decode cL_law 716 = .ok (.invokestatic 151, 3) := by decide +kernel
theorem dL_law_719 : decode cL_law 719 = .ok (.istore 5, 2) := by decide +kernel
theorem dL_law_721 : decode cL_law 721 = .ok (.aload_n 2, 1) := by decide +kernel
theorem dL_law_722 : decode cL_law 722 = .ok (.aload_n 0, 1) := by decide +kernel
theorem dL_law_723 : decode cL_law 723 = .ok (.iload 4, 2) := by decide +kernel
theorem dL_law_725 : decode cL_law 725 = .ok (.iconst 1, 1) := by decide +kernel
theorem dL_law_726 : decode cL_law 726 = .ok (.iadd, 1) := by decide +kernel
theorem dL_law_727 : decode cL_law 727 = .ok (.iaload, 1) := by decide +kernel
theorem dL_law_728 : decode cL_law 728 = .ok (.invokevirtual 153, 3) := by decide +kernel
theorem dL_law_731 : decode cL_law 731 = .ok (.istore 6, 2) := by decide +kernel
theorem dL_law_733 : decode cL_law 733 = .ok (.aload_n 2, 1) := by decide +kernel
theorem dL_law_734 : decode cL_law 734 = .ok (.invokevirtual 125, 3) := by decide +kernel
theorem dL_law_737 : decode cL_law 737 = .ok (.iload 5, 2) := by decide +kernel
theorem dL_law_739 : decode cL_law 739 = .ok (.if_icmp .eq 5, 3) := by decide +kernel
theorem dL_law_742 : decode cL_law 742 = .ok (.iconst 0, 1) := by decide +kernel
theorem dL_law_743 : decode cL_law 743 = .ok (.ireturn, 1) := by decide +kernel
theorem dL_law_744 : decode cL_law 744 = .ok (.iload 5, 2) := by decide +kernel
theorem dL_law_746 : decode cL_law 746 = .ok (.ifCond .ne 15, 3) := by decide +kernel
theorem dL_law_749 : decode cL_law 749 = .ok (.aload_n 3, 1) := by decide +kernel
theorem dL_law_750 : decode cL_law 750 = .ok (.iconst 0, 1) := by decide +kernel
theorem dL_law_751 : decode cL_law 751 = .ok (.laload, 1) := by decide +kernel
theorem dL_law_752 : decode cL_law 752 = .ok (.iload 6, 2) := by decide +kernel
theorem dL_law_754 : decode cL_law 754 = .ok (.i2l, 1) := by decide +kernel
theorem dL_law_755 : decode cL_law 755 = .ok (.lcmp, 1) := by decide +kernel
theorem dL_law_756 : decode cL_law 756 = .ok (.ifCond .eq 5, 3) := by decide +kernel
theorem dL_law_759 : decode cL_law 759 = .ok (.iconst 0, 1) := by decide +kernel
theorem dL_law_760 : decode cL_law 760 = .ok (.ireturn, 1) := by decide +kernel
theorem dL_law_761 : decode cL_law 761 = .ok (.goto 1450, 3) := by decide +kernel
theorem dL_law_764 : decode cL_law 764 = .ok (.aload_n 1, 1) := by decide +kernel
theorem dL_law_765 : decode cL_law 765 = .ok (.aload_n 0, 1) := by decide +kernel
theorem dL_law_766 : decode cL_law 766 = .ok (.iload 4, 2) := by decide +kernel
theorem dL_law_768 : decode cL_law 768 = .ok (.iconst 1, 1) := by decide +kernel
theorem dL_law_769 : decode cL_law 769 = .ok (.iadd, 1) := by decide +kernel
theorem dL_law_770 : decode cL_law 770 = .ok (.iaload, 1) := by decide +kernel
theorem dL_law_771 : decode cL_law 771 = .ok (.aload_n 3, 1) := by decide +kernel
theorem dL_law_772 : decode cL_law 772 = .ok (.invokestatic 154, 3) := by decide +kernel
theorem dL_law_775 : decode cL_law 775 = .ok (.istore 5, 2) := by decide +kernel
theorem dL_law_777 : decode cL_law 777 = .ok (.aload_n 2, 1) := by decide +kernel
theorem dL_law_778 : decode cL_law 778 = .ok (.aload_n 0, 1) := by decide +kernel
theorem dL_law_779 : decode cL_law 779 = .ok (.iload 4, 2) := by decide +kernel
theorem dL_law_781 : decode cL_law 781 = .ok (.iconst 1, 1) := by decide +kernel
theorem dL_law_782 : decode cL_law 782 = .ok (.iadd, 1) := by decide +kernel
theorem dL_law_783 : decode cL_law 783 = .ok (.iaload, 1) := by decide +kernel
theorem dL_law_784 : decode cL_law 784 = .ok (.invokevirtual 156, 3) := by decide +kernel
theorem dL_law_787 : decode cL_law 787 = .ok (.istore 6, 2) := by decide +kernel
theorem dL_law_789 : decode cL_law 789 = .ok (.aload_n 2, 1) := by decide +kernel
theorem dL_law_790 : decode cL_law 790 = .ok (.invokevirtual 125, 3) := by decide +kernel
theorem dL_law_793 : decode cL_law 793 = .ok (.iload 5, 2) := by decide +kernel
theorem dL_law_795 : decode cL_law 795 = .ok (.if_icmp .eq 5, 3) := by decide +kernel
theorem dL_law_798 : decode cL_law 798 = .ok (.iconst 0, 1) := by decide +kernel
theorem dL_law_799 : decode cL_law 799 = .ok (.ireturn, 1) := by decide +kernel
theorem dL_law_800 : decode cL_law 800 = .ok (.iload 5, 2) := by decide +kernel
theorem dL_law_802 : decode cL_law 802 = .ok (.ifCond .ne 15, 3) := by decide +kernel
theorem dL_law_805 : decode cL_law 805 = .ok (.aload_n 3, 1) := by decide +kernel
theorem dL_law_806 : decode cL_law 806 = .ok (.iconst 0, 1) := by decide +kernel
theorem dL_law_807 : decode cL_law 807 = .ok (.laload, 1) := by decide +kernel
theorem dL_law_808 : decode cL_law 808 = .ok (.iload 6, 2) := by decide +kernel
theorem dL_law_810 : decode cL_law 810 = .ok (.i2l, 1) := by decide +kernel
theorem dL_law_811 : decode cL_law 811 = .ok (.lcmp, 1) := by decide +kernel
theorem dL_law_812 : decode cL_law 812 = .ok (.ifCond .eq 5, 3) := by decide +kernel
theorem dL_law_815 : decode cL_law 815 = .ok (.iconst 0, 1) := by decide +kernel
theorem dL_law_816 : decode cL_law 816 = .ok (.ireturn, 1) := by decide +kernel
theorem dL_law_817 : decode cL_law 817 = .ok (.goto 1394, 3) := by decide +kernel
theorem dL_law_820 : decode cL_law 820 = .ok (.aload_n 1, 1) := by decide +kernel
theorem dL_law_821 : decode cL_law 821 = .ok (.aload_n 0, 1) := by decide +kernel
theorem dL_law_822 : decode cL_law 822 = .ok (.iload 4, 2) := by decide +kernel
theorem dL_law_824 : decode cL_law 824 = .ok (.iconst 1, 1) := by decide +kernel
theorem dL_law_825 : decode cL_law 825 = .ok (.iadd, 1) := by decide +kernel
theorem dL_law_826 : decode cL_law 826 = .ok (.iaload, 1) := by decide +kernel
theorem dL_law_827 : decode cL_law 827 = .ok (.aload_n 3, 1) := by decide +kernel
theorem dL_law_828 : decode cL_law 828 = .ok (.invokestatic 157, 3) := by decide +kernel
theorem dL_law_831 : decode cL_law 831 = .ok (.istore 5, 2) := by decide +kernel
theorem dL_law_833 : decode cL_law 833 = .ok (.aload_n 2, 1) := by decide +kernel
theorem dL_law_834 : decode cL_law 834 = .ok (.aload_n 0, 1) := by decide +kernel
theorem dL_law_835 : decode cL_law 835 = .ok (.iload 4, 2) := by decide +kernel
theorem dL_law_837 : decode cL_law 837 = .ok (.iconst 1, 1) := by decide +kernel
theorem dL_law_838 : decode cL_law 838 = .ok (.iadd, 1) := by decide +kernel
theorem dL_law_839 : decode cL_law 839 = .ok (.iaload, 1) := by decide +kernel
theorem dL_law_840 : decode cL_law 840 = .ok (.invokevirtual 159, 3) := by decide +kernel
theorem dL_law_843 : decode cL_law 843 = .ok (.istore 6, 2) := by decide +kernel
theorem dL_law_845 : decode cL_law 845 = .ok (.aload_n 2, 1) := by decide +kernel
theorem dL_law_846 : decode cL_law 846 = .ok (.invokevirtual 125, 3) := by decide +kernel
theorem dL_law_849 : decode cL_law 849 = .ok (.iload 5, 2) := by decide +kernel
theorem dL_law_851 : decode cL_law 851 = .ok (.if_icmp .eq 5, 3) := by decide +kernel
theorem dL_law_854 : decode cL_law 854 = .ok (.iconst 0, 1) := by decide +kernel
theorem dL_law_855 : decode cL_law 855 = .ok (.ireturn, 1) := by decide +kernel
theorem dL_law_856 : decode cL_law 856 = .ok (.iload 5, 2) := by decide +kernel
theorem dL_law_858 : decode cL_law 858 = .ok (.ifCond .ne 15, 3) := by decide +kernel
theorem dL_law_861 : decode cL_law 861 = .ok (.aload_n 3, 1) := by decide +kernel
theorem dL_law_862 : decode cL_law 862 = .ok (.iconst 0, 1) := by decide +kernel
theorem dL_law_863 : decode cL_law 863 = .ok (.laload, 1) := by decide +kernel
theorem dL_law_864 : decode cL_law 864 = .ok (.iload 6, 2) := by decide +kernel
theorem dL_law_866 : decode cL_law 866 = .ok (.i2l, 1) := by decide +kernel
theorem dL_law_867 : decode cL_law 867 = .ok (.lcmp, 1) := by decide +kernel
theorem dL_law_868 : decode cL_law 868 = .ok (.ifCond .eq 5, 3) := by decide +kernel
theorem dL_law_871 : decode cL_law 871 = .ok (.iconst 0, 1) := by decide +kernel
theorem dL_law_872 : decode cL_law 872 = .ok (.ireturn, 1) := by decide +kernel
theorem dL_law_873 : decode cL_law 873 = .ok (.goto 1338, 3) := by decide +kernel
theorem dL_law_876 : decode cL_law 876 = .ok (.aload_n 1, 1) := by decide +kernel
theorem dL_law_877 : decode cL_law 877 = .ok (.aload_n 0, 1) := by decide +kernel
theorem dL_law_878 : decode cL_law 878 = .ok (.iload 4, 2) := by decide +kernel
theorem dL_law_880 : decode cL_law 880 = .ok (.iconst 1, 1) := by decide +kernel
theorem dL_law_881 : decode cL_law 881 = .ok (.iadd, 1) := by decide +kernel
theorem dL_law_882 : decode cL_law 882 = .ok (.iaload, 1) := by decide +kernel
theorem dL_law_883 : decode cL_law 883 = .ok (.aload_n 3, 1) := by decide +kernel
theorem dL_law_884 : decode cL_law 884 = .ok (.invokestatic 160, 3) := by decide +kernel
theorem dL_law_887 : decode cL_law 887 = .ok (.istore 5, 2) := by decide +kernel
theorem dL_law_889 : decode cL_law 889 = .ok (.aload_n 2, 1) := by decide +kernel
theorem dL_law_890 : decode cL_law 890 = .ok (.aload_n 0, 1) := by decide +kernel
theorem dL_law_891 : decode cL_law 891 = .ok (.iload 4, 2) := by decide +kernel
theorem dL_law_893 : decode cL_law 893 = .ok (.iconst 1, 1) := by decide +kernel
theorem dL_law_894 : decode cL_law 894 = .ok (.iadd, 1) := by decide +kernel
theorem dL_law_895 : decode cL_law 895 = .ok (.iaload, 1) := by decide +kernel
theorem dL_law_896 : decode cL_law 896 = .ok (.invokevirtual 162, 3) := by decide +kernel
theorem dL_law_899 : decode cL_law 899 = .ok (.istore 6, 2) := by decide +kernel
theorem dL_law_901 : decode cL_law 901 = .ok (.aload_n 2, 1) := by decide +kernel
theorem dL_law_902 : decode cL_law 902 = .ok (.invokevirtual 125, 3) := by decide +kernel
theorem dL_law_905 : decode cL_law 905 = .ok (.iload 5, 2) := by decide +kernel
theorem dL_law_907 : decode cL_law 907 = .ok (.if_icmp .eq 5, 3) := by decide +kernel
theorem dL_law_910 : decode cL_law 910 = .ok (.iconst 0, 1) := by decide +kernel
theorem dL_law_911 : decode cL_law 911 = .ok (.ireturn, 1) := by decide +kernel
theorem dL_law_912 : decode cL_law 912 = .ok (.iload 5, 2) := by decide +kernel
theorem dL_law_914 : decode cL_law 914 = .ok (.ifCond .ne 15, 3) := by decide +kernel
theorem dL_law_917 : decode cL_law 917 = .ok (.aload_n 3, 1) := by decide +kernel
theorem dL_law_918 : decode cL_law 918 = .ok (.iconst 0, 1) := by decide +kernel
theorem dL_law_919 : decode cL_law 919 = .ok (.laload, 1) := by decide +kernel
theorem dL_law_920 : decode cL_law 920 = .ok (.iload 6, 2) := by decide +kernel
theorem dL_law_922 : decode cL_law 922 = .ok (.i2l, 1) := by decide +kernel
theorem dL_law_923 : decode cL_law 923 = .ok (.lcmp, 1) := by decide +kernel
theorem dL_law_924 : decode cL_law 924 = .ok (.ifCond .eq 5, 3) := by decide +kernel
theorem dL_law_927 : decode cL_law 927 = .ok (.iconst 0, 1) := by decide +kernel
theorem dL_law_928 : decode cL_law 928 = .ok (.ireturn, 1) := by decide +kernel
theorem dL_law_929 : decode cL_law 929 = .ok (.goto 1282, 3) := by decide +kernel
theorem dL_law_932 : decode cL_law 932 = .ok (.aload_n 1, 1) := by decide +kernel
theorem dL_law_933 : decode cL_law 933 = .ok (.invokevirtual 163, 3) := by decide +kernel
theorem dL_law_936 : decode cL_law 936 = .ok (.aload_n 2, 1) := by decide +kernel
theorem dL_law_937 : decode cL_law 937 = .ok (.invokevirtual 166, 3) := by decide +kernel
theorem dL_law_940 : decode cL_law 940 = .ok (.if_icmp .eq 1271, 3) := by decide +kernel
theorem dL_law_943 : decode cL_law 943 = .ok (.iconst 0, 1) := by decide +kernel
theorem dL_law_944 : decode cL_law 944 = .ok (.ireturn, 1) := by decide +kernel
theorem dL_law_945 : decode cL_law 945 = .ok (.aload_n 1, 1) := by decide +kernel
theorem dL_law_946 : decode cL_law 946 = .ok (.invokevirtual 167, 3) := by decide +kernel
theorem dL_law_949 : decode cL_law 949 = .ok (.aload_n 2, 1) := by decide +kernel
theorem dL_law_950 : decode cL_law 950 = .ok (.invokevirtual 170, 3) := by decide +kernel
theorem dL_law_953 : decode cL_law 953 = .ok (.if_icmp .eq 1258, 3) := by decide +kernel
theorem dL_law_956 : decode cL_law 956 = .ok (.iconst 0, 1) := by decide +kernel
theorem dL_law_957 : decode cL_law 957 = .ok (.ireturn, 1) := by decide +kernel
theorem dL_law_958 : decode cL_law 958 = .ok (.aload_n 1, 1) := by decide +kernel
theorem dL_law_959 : decode cL_law 959 = .ok (.invokevirtual 171, 3) := by decide +kernel
theorem dL_law_962 : decode cL_law 962 = .ok (.aload_n 2, 1) := by decide +kernel
theorem dL_law_963 : decode cL_law 963 = .ok (.invokevirtual 174, 3) := by decide +kernel
theorem dL_law_966 : decode cL_law 966 = .ok (.if_icmp .eq 1245, 3) := by decide +kernel
theorem dL_law_969 : decode cL_law 969 = .ok (.iconst 0, 1) := by decide +kernel
theorem dL_law_970 : decode cL_law 970 = .ok (.ireturn, 1) := by decide +kernel
theorem dL_law_971 : decode cL_law 971 = .ok (.aload_n 1, 1) := by decide +kernel
theorem dL_law_972 : decode cL_law 972 = .ok (.aload_n 0, 1) := by decide +kernel
theorem dL_law_973 : decode cL_law 973 = .ok (.iload 4, 2) := by decide +kernel
theorem dL_law_975 : decode cL_law 975 = .ok (.iconst 1, 1) := by decide +kernel
theorem dL_law_976 : decode cL_law 976 = .ok (.iadd, 1) := by decide +kernel
theorem dL_law_977 : decode cL_law 977 = .ok (.iaload, 1) := by decide +kernel
theorem dL_law_978 : decode cL_law 978 = .ok (.aload_n 3, 1) := by decide +kernel
theorem dL_law_979 : decode cL_law 979 = .ok (.invokestatic 175, 3) := by decide +kernel
theorem dL_law_982 : decode cL_law 982 = .ok (.istore 5, 2) := by decide +kernel
theorem dL_law_984 : decode cL_law 984 = .ok (.aload_n 2, 1) := by decide +kernel
theorem dL_law_985 : decode cL_law 985 = .ok (.aload_n 0, 1) := by decide +kernel
theorem dL_law_986 : decode cL_law 986 = .ok (.iload 4, 2) := by decide +kernel
theorem dL_law_988 : decode cL_law 988 = .ok (.iconst 1, 1) := by decide +kernel
theorem dL_law_989 : decode cL_law 989 = .ok (.iadd, 1) := by decide +kernel
theorem dL_law_990 : decode cL_law 990 = .ok (.iaload, 1) := by decide +kernel
theorem dL_law_991 : decode cL_law 991 = .ok (.invokevirtual 177, 3) := by decide +kernel
theorem dL_law_994 : decode cL_law 994 = .ok (.istore 6, 2) := by decide +kernel
theorem dL_law_996 : decode cL_law 996 = .ok (.aload_n 2, 1) := by decide +kernel
theorem dL_law_997 : decode cL_law 997 = .ok (.invokevirtual 125, 3) := by decide +kernel
theorem dL_law_1000 : decode cL_law 1000 = .ok (.iload 5, 2) := by decide +kernel
theorem dL_law_1002 : decode cL_law 1002 = .ok (.if_icmp .eq 5, 3) := by decide +kernel
theorem dL_law_1005 : decode cL_law 1005 = .ok (.iconst 0, 1) := by decide +kernel
theorem dL_law_1006 : decode cL_law 1006 = .ok (.ireturn, 1) := by decide +kernel
theorem dL_law_1007 : decode cL_law 1007 = .ok (.iload 5, 2) := by decide +kernel
theorem dL_law_1009 : decode cL_law 1009 = .ok (.ifCond .ne 15, 3) := by decide +kernel
theorem dL_law_1012 : decode cL_law 1012 = .ok (.aload_n 3, 1) := by decide +kernel
theorem dL_law_1013 : decode cL_law 1013 = .ok (.iconst 0, 1) := by decide +kernel
theorem dL_law_1014 : decode cL_law 1014 = .ok (.laload, 1) := by decide +kernel
theorem dL_law_1015 : decode cL_law 1015 = .ok (.iload 6, 2) := by decide +kernel
theorem dL_law_1017 : decode cL_law 1017 = .ok (.i2l, 1) := by decide +kernel
theorem dL_law_1018 : decode cL_law 1018 = .ok (.lcmp, 1) := by decide +kernel
theorem dL_law_1019 : decode cL_law 1019 = .ok (.ifCond .eq 5, 3) := by decide +kernel
theorem dL_law_1022 : decode cL_law 1022 = .ok (.iconst 0, 1) := by decide +kernel
theorem dL_law_1023 : decode cL_law 1023 = .ok (.ireturn, 1) := by decide +kernel
theorem dL_law_1024 : decode cL_law 1024 = .ok (.goto 1187, 3) := by decide +kernel
theorem dL_law_1027 : decode cL_law 1027 = .ok (.aload_n 1, 1) := by decide +kernel
theorem dL_law_1028 : decode cL_law 1028 = .ok (.aload_n 0, 1) := by decide +kernel
theorem dL_law_1029 : decode cL_law 1029 = .ok (.iload 4, 2) := by decide +kernel
theorem dL_law_1031 : decode cL_law 1031 = .ok (.iconst 1, 1) := by decide +kernel
theorem dL_law_1032 : decode cL_law 1032 = .ok (.iadd, 1) := by decide +kernel
theorem dL_law_1033 : decode cL_law 1033 = .ok (.iaload, 1) := by decide +kernel
theorem dL_law_1034 : decode cL_law 1034 = .ok (.aload_n 3, 1) := by decide +kernel
theorem dL_law_1035 : decode cL_law 1035 = .ok (.invokestatic 178, 3) := by decide +kernel
theorem dL_law_1038 : decode cL_law 1038 = .ok (.istore 5, 2) := by decide +kernel
theorem dL_law_1040 : decode cL_law 1040 = .ok (.aload_n 2, 1) := by decide +kernel
theorem dL_law_1041 : decode cL_law 1041 = .ok (.aload_n 0, 1) := by decide +kernel
theorem dL_law_1042 : decode cL_law 1042 = .ok (.iload 4, 2) := by decide +kernel
theorem dL_law_1044 : decode cL_law 1044 = .ok (.iconst 1, 1) := by decide +kernel
theorem dL_law_1045 : decode cL_law 1045 = .ok (.iadd, 1) := by decide +kernel
theorem dL_law_1046 : decode cL_law 1046 = .ok (.iaload, 1) := by decide +kernel
theorem dL_law_1047 : decode cL_law 1047 = .ok (.invokevirtual 180, 3) := by decide +kernel
theorem dL_law_1050 : decode cL_law 1050 = .ok (.istore 6, 2) := by decide +kernel
theorem dL_law_1052 : decode cL_law 1052 = .ok (.aload_n 2, 1) := by decide +kernel
theorem dL_law_1053 : decode cL_law 1053 = .ok (.invokevirtual 125, 3) := by decide +kernel
theorem dL_law_1056 : decode cL_law 1056 = .ok (.iload 5, 2) := by decide +kernel
theorem dL_law_1058 : decode cL_law 1058 = .ok (.if_icmp .eq 5, 3) := by decide +kernel
theorem dL_law_1061 : decode cL_law 1061 = .ok (.iconst 0, 1) := by decide +kernel
theorem dL_law_1062 : decode cL_law 1062 = .ok (.ireturn, 1) := by decide +kernel
theorem dL_law_1063 : decode cL_law 1063 = .ok (.iload 5, 2) := by decide +kernel
theorem dL_law_1065 : decode cL_law 1065 = .ok (.ifCond .ne 15, 3) := by decide +kernel
theorem dL_law_1068 : decode cL_law 1068 = .ok (.aload_n 3, 1) := by decide +kernel
theorem dL_law_1069 : decode cL_law 1069 = .ok (.iconst 0, 1) := by decide +kernel
theorem dL_law_1070 : decode cL_law 1070 = .ok (.laload, 1) := by decide +kernel
theorem dL_law_1071 : decode cL_law 1071 = .ok (.iload 6, 2) := by decide +kernel
theorem dL_law_1073 : decode cL_law 1073 = .ok (.i2l, 1) := by decide +kernel
theorem dL_law_1074 : decode cL_law 1074 = .ok (.lcmp, 1) := by decide +kernel
theorem dL_law_1075 : decode cL_law 1075 = .ok (.ifCond .eq 5, 3) := by decide +kernel
theorem dL_law_1078 : decode cL_law 1078 = .ok (.iconst 0, 1) := by decide +kernel
theorem dL_law_1079 : decode cL_law 1079 = .ok (.ireturn, 1) := by decide +kernel
theorem dL_law_1080 : decode cL_law 1080 = .ok (.goto 1131, 3) := by decide +kernel
theorem dL_law_1083 : decode cL_law 1083 = .ok (.aload_n 1, 1) := by decide +kernel
theorem dL_law_1084 : decode cL_law 1084 = .ok (.invokevirtual 181, 3) := by decide +kernel
theorem dL_law_1087 : decode cL_law 1087 = .ok (.aload_n 2, 1) := by decide +kernel
theorem dL_law_1088 : decode cL_law 1088 = .ok (.invokevirtual 184, 3) := by decide +kernel
theorem dL_law_1091 : decode cL_law 1091 = .ok (.if_icmp .eq 1120, 3) := by decide +kernel
theorem dL_law_1094 : decode cL_law 1094 = .ok (.iconst 0, 1) := by decide +kernel
theorem dL_law_1095 : decode cL_law 1095 = .ok (.ireturn, 1) := by decide +kernel
theorem dL_law_1096 : decode cL_law 1096 = .ok (.aload_n 1, 1) := by decide +kernel
theorem dL_law_1097 : decode cL_law 1097 = .ok (.aload_n 0, 1) := by decide +kernel
theorem dL_law_1098 : decode cL_law 1098 = .ok (.iload 4, 2) := by decide +kernel
theorem dL_law_1100 : decode cL_law 1100 = .ok (.iconst 1, 1) := by decide +kernel
theorem dL_law_1101 : decode cL_law 1101 = .ok (.iadd, 1) := by decide +kernel
theorem dL_law_1102 : decode cL_law 1102 = .ok (.iaload, 1) := by decide +kernel
theorem dL_law_1103 : decode cL_law 1103 = .ok (.aload_n 3, 1) := by decide +kernel
theorem dL_law_1104 : decode cL_law 1104 = .ok (.invokestatic 185, 3) := by decide +kernel
theorem dL_law_1107 : decode cL_law 1107 = .ok (.istore 5, 2) := by decide +kernel
theorem dL_law_1109 : decode cL_law 1109 = .ok (.aload_n 2, 1) := by decide +kernel
theorem dL_law_1110 : decode cL_law 1110 = .ok (.aload_n 0, 1) := by decide +kernel
theorem dL_law_1111 : decode cL_law 1111 = .ok (.iload 4, 2) := by decide +kernel
theorem dL_law_1113 : decode cL_law 1113 = .ok (.iconst 1, 1) := by decide +kernel
theorem dL_law_1114 : decode cL_law 1114 = .ok (.iadd, 1) := by decide +kernel
theorem dL_law_1115 : decode cL_law 1115 = .ok (.iaload, 1) := by decide +kernel
theorem dL_law_1116 : decode cL_law 1116 = .ok (.invokevirtual 187, 3) := by decide +kernel
theorem dL_law_1119 : decode cL_law 1119 = .ok (.istore 6, 2) := by decide +kernel
theorem dL_law_1121 : decode cL_law 1121 = .ok (.aload_n 2, 1) := by decide +kernel
theorem dL_law_1122 : decode cL_law 1122 = .ok (.invokevirtual 125, 3) := by decide +kernel
theorem dL_law_1125 : decode cL_law 1125 = .ok (.iload 5, 2) := by decide +kernel
theorem dL_law_1127 : decode cL_law 1127 = .ok (.if_icmp .eq 5, 3) := by decide +kernel
theorem dL_law_1130 : decode cL_law 1130 = .ok (.iconst 0, 1) := by decide +kernel
theorem dL_law_1131 : decode cL_law 1131 = .ok (.ireturn, 1) := by decide +kernel
theorem dL_law_1132 : decode cL_law 1132 = .ok (.iload 5, 2) := by decide +kernel
theorem dL_law_1134 : decode cL_law 1134 = .ok (.ifCond .ne 15, 3) := by decide +kernel
theorem dL_law_1137 : decode cL_law 1137 = .ok (.aload_n 3, 1) := by decide +kernel
theorem dL_law_1138 : decode cL_law 1138 = .ok (.iconst 0, 1) := by decide +kernel
theorem dL_law_1139 : decode cL_law 1139 = .ok (.laload, 1) := by decide +kernel
theorem dL_law_1140 : decode cL_law 1140 = .ok (.iload 6, 2) := by decide +kernel
theorem dL_law_1142 : decode cL_law 1142 = .ok (.i2l, 1) := by decide +kernel
theorem dL_law_1143 : decode cL_law 1143 = .ok (.lcmp, 1) := by decide +kernel
theorem dL_law_1144 : decode cL_law 1144 = .ok (.ifCond .eq 5, 3) := by decide +kernel
theorem dL_law_1147 : decode cL_law 1147 = .ok (.iconst 0, 1) := by decide +kernel
theorem dL_law_1148 : decode cL_law 1148 = .ok (.ireturn, 1) := by decide +kernel
theorem dL_law_1149 : decode cL_law 1149 = .ok (.goto 1062, 3) := by decide +kernel
theorem dL_law_1152 : decode cL_law 1152 = .ok (.aload_n 1, 1) := by decide +kernel
theorem dL_law_1153 : decode cL_law 1153 = .ok (.aload_n 0, 1) := by decide +kernel
theorem dL_law_1154 : decode cL_law 1154 = .ok (.iload 4, 2) := by decide +kernel
theorem dL_law_1156 : decode cL_law 1156 = .ok (.iconst 1, 1) := by decide +kernel
theorem dL_law_1157 : decode cL_law 1157 = .ok (.iadd, 1) := by decide +kernel
theorem dL_law_1158 : decode cL_law 1158 = .ok (.iaload, 1) := by decide +kernel
theorem dL_law_1159 : decode cL_law 1159 = .ok (.aload_n 3, 1) := by decide +kernel
theorem dL_law_1160 : decode cL_law 1160 = .ok (.invokestatic 188, 3) := by decide +kernel
theorem dL_law_1163 : decode cL_law 1163 = .ok (.istore 5, 2) := by decide +kernel
theorem dL_law_1165 : decode cL_law 1165 = .ok (.aload_n 2, 1) := by decide +kernel
theorem dL_law_1166 : decode cL_law 1166 = .ok (.aload_n 0, 1) := by decide +kernel
theorem dL_law_1167 : decode cL_law 1167 = .ok (.iload 4, 2) := by decide +kernel
theorem dL_law_1169 : decode cL_law 1169 = .ok (.iconst 1, 1) := by decide +kernel
theorem dL_law_1170 : decode cL_law 1170 = .ok (.iadd, 1) := by decide +kernel
theorem dL_law_1171 : decode cL_law 1171 = .ok (.iaload, 1) := by decide +kernel
theorem dL_law_1172 : decode cL_law 1172 = .ok (.invokevirtual 190, 3) := by decide +kernel
theorem dL_law_1175 : decode cL_law 1175 = .ok (.istore 6, 2) := by decide +kernel
theorem dL_law_1177 : decode cL_law 1177 = .ok (.aload_n 2, 1) := by decide +kernel
theorem dL_law_1178 : decode cL_law 1178 = .ok (.invokevirtual 125, 3) := by decide +kernel
theorem dL_law_1181 : decode cL_law 1181 = .ok (.iload 5, 2) := by decide +kernel
theorem dL_law_1183 : decode cL_law 1183 = .ok (.if_icmp .eq 5, 3) := by decide +kernel
theorem dL_law_1186 : decode cL_law 1186 = .ok (.iconst 0, 1) := by decide +kernel
theorem dL_law_1187 : decode cL_law 1187 = .ok (.ireturn, 1) := by decide +kernel
theorem dL_law_1188 : decode cL_law 1188 = .ok (.iload 5, 2) := by decide +kernel
theorem dL_law_1190 : decode cL_law 1190 = .ok (.ifCond .ne 15, 3) := by decide +kernel
theorem dL_law_1193 : decode cL_law 1193 = .ok (.aload_n 3, 1) := by decide +kernel
theorem dL_law_1194 : decode cL_law 1194 = .ok (.iconst 0, 1) := by decide +kernel
theorem dL_law_1195 : decode cL_law 1195 = .ok (.laload, 1) := by decide +kernel
theorem dL_law_1196 : decode cL_law 1196 = .ok (.iload 6, 2) := by decide +kernel
theorem dL_law_1198 : decode cL_law 1198 = .ok (.i2l, 1) := by decide +kernel
theorem dL_law_1199 : decode cL_law 1199 = .ok (.lcmp, 1) := by decide +kernel
theorem dL_law_1200 : decode cL_law 1200 = .ok (.ifCond .eq 5, 3) := by decide +kernel
theorem dL_law_1203 : decode cL_law 1203 = .ok (.iconst 0, 1) := by decide +kernel
theorem dL_law_1204 : decode cL_law 1204 = .ok (.ireturn, 1) := by decide +kernel
theorem dL_law_1205 : decode cL_law 1205 = .ok (.goto 1006, 3) := by decide +kernel
theorem dL_law_1208 : decode cL_law 1208 = .ok (.aload_n 1, 1) := by decide +kernel
theorem dL_law_1209 : decode cL_law 1209 = .ok (.aload_n 0, 1) := by decide +kernel
theorem dL_law_1210 : decode cL_law 1210 = .ok (.iload 4, 2) := by decide +kernel
theorem dL_law_1212 : decode cL_law 1212 = .ok (.iconst 1, 1) := by decide +kernel
theorem dL_law_1213 : decode cL_law 1213 = .ok (.iadd, 1) := by decide +kernel
theorem dL_law_1214 : decode cL_law 1214 = .ok (.iaload, 1) := by decide +kernel
theorem dL_law_1215 : decode cL_law 1215 = .ok (.aload_n 3, 1) := by decide +kernel
theorem dL_law_1216 : decode cL_law 1216 = .ok (.invokestatic 191, 3) := by decide +kernel
theorem dL_law_1219 : decode cL_law 1219 = .ok (.istore 5, 2) := by decide +kernel
theorem dL_law_1221 : decode cL_law 1221 = .ok (.aload_n 2, 1) := by decide +kernel
theorem dL_law_1222 : decode cL_law 1222 = .ok (.aload_n 0, 1) := by decide +kernel
theorem dL_law_1223 : decode cL_law 1223 = .ok (.iload 4, 2) := by decide +kernel
theorem dL_law_1225 : decode cL_law 1225 = .ok (.iconst 1, 1) := by decide +kernel
theorem dL_law_1226 : decode cL_law 1226 = .ok (.iadd, 1) := by decide +kernel
theorem dL_law_1227 : decode cL_law 1227 = .ok (.iaload, 1) := by decide +kernel
theorem dL_law_1228 : decode cL_law 1228 = .ok (.invokevirtual 193, 3) := by decide +kernel
theorem dL_law_1231 : decode cL_law 1231 = .ok (.istore 6, 2) := by decide +kernel
theorem dL_law_1233 : decode cL_law 1233 = .ok (.aload_n 2, 1) := by decide +kernel
theorem dL_law_1234 : decode cL_law 1234 = .ok (.invokevirtual 125, 3) := by decide +kernel
theorem dL_law_1237 : decode cL_law 1237 = .ok (.iload 5, 2) := by decide +kernel
theorem dL_law_1239 : decode cL_law 1239 = .ok (.if_icmp .eq 5, 3) := by decide +kernel
theorem dL_law_1242 : decode cL_law 1242 = .ok (.iconst 0, 1) := by decide +kernel
theorem dL_law_1243 : decode cL_law 1243 = .ok (.ireturn, 1) := by decide +kernel
theorem dL_law_1244 : decode cL_law 1244 = .ok (.iload 5, 2) := by decide +kernel
theorem dL_law_1246 : decode cL_law 1246 = .ok (.ifCond .ne 15, 3) := by decide +kernel
theorem dL_law_1249 : decode cL_law 1249 = .ok (.aload_n 3, 1) := by decide +kernel
theorem dL_law_1250 : decode cL_law 1250 = .ok (.iconst 0, 1) := by decide +kernel
theorem dL_law_1251 : decode cL_law 1251 = .ok (.laload, 1) := by decide +kernel
theorem dL_law_1252 : decode cL_law 1252 = .ok (.iload 6, 2) := by decide +kernel
theorem dL_law_1254 : decode cL_law 1254 = .ok (.i2l, 1) := by decide +kernel
theorem dL_law_1255 : decode cL_law 1255 = .ok (.lcmp, 1) := by decide +kernel
theorem dL_law_1256 : decode cL_law 1256 = .ok (.ifCond .eq 5, 3) := by decide +kernel
theorem dL_law_1259 : decode cL_law 1259 = .ok (.iconst 0, 1) := by decide +kernel
theorem dL_law_1260 : decode cL_law 1260 = .ok (.ireturn, 1) := by decide +kernel
theorem dL_law_1261 : decode cL_law 1261 = .ok (.goto 950, 3) := by decide +kernel
theorem dL_law_1264 : decode cL_law 1264 = .ok (.aload_n 1, 1) := by decide +kernel
theorem dL_law_1265 : decode cL_law 1265 = .ok (.aload_n 0, 1) := by decide +kernel
theorem dL_law_1266 : decode cL_law 1266 = .ok (.iload 4, 2) := by decide +kernel
theorem dL_law_1268 : decode cL_law 1268 = .ok (.iconst 1, 1) := by decide +kernel
theorem dL_law_1269 : decode cL_law 1269 = .ok (.iadd, 1) := by decide +kernel
theorem dL_law_1270 : decode cL_law 1270 = .ok (.iaload, 1) := by decide +kernel
theorem dL_law_1271 : decode cL_law 1271 = .ok (.aload_n 3, 1) := by decide +kernel
theorem dL_law_1272 : decode cL_law 1272 = .ok (.invokestatic 194, 3) := by decide +kernel
theorem dL_law_1275 : decode cL_law 1275 = .ok (.istore 5, 2) := by decide +kernel
theorem dL_law_1277 : decode cL_law 1277 = .ok (.aload_n 2, 1) := by decide +kernel
theorem dL_law_1278 : decode cL_law 1278 = .ok (.aload_n 0, 1) := by decide +kernel
theorem dL_law_1279 : decode cL_law 1279 = .ok (.iload 4, 2) := by decide +kernel
theorem dL_law_1281 : decode cL_law 1281 = .ok (.iconst 1, 1) := by decide +kernel
theorem dL_law_1282 : decode cL_law 1282 = .ok (.iadd, 1) := by decide +kernel
theorem dL_law_1283 : decode cL_law 1283 = .ok (.iaload, 1) := by decide +kernel
theorem dL_law_1284 : decode cL_law 1284 = .ok (.invokevirtual 196, 3) := by decide +kernel
theorem dL_law_1287 : decode cL_law 1287 = .ok (.istore 6, 2) := by decide +kernel
theorem dL_law_1289 : decode cL_law 1289 = .ok (.aload_n 2, 1) := by decide +kernel
theorem dL_law_1290 : decode cL_law 1290 = .ok (.invokevirtual 125, 3) := by decide +kernel
theorem dL_law_1293 : decode cL_law 1293 = .ok (.iload 5, 2) := by decide +kernel
theorem dL_law_1295 : decode cL_law 1295 = .ok (.if_icmp .eq 5, 3) := by decide +kernel
theorem dL_law_1298 : decode cL_law 1298 = .ok (.iconst 0, 1) := by decide +kernel
theorem dL_law_1299 : decode cL_law 1299 = .ok (.ireturn, 1) := by decide +kernel
theorem dL_law_1300 : decode cL_law 1300 = .ok (.iload 5, 2) := by decide +kernel
theorem dL_law_1302 : decode cL_law 1302 = .ok (.ifCond .ne 15, 3) := by decide +kernel
theorem dL_law_1305 : decode cL_law 1305 = .ok (.aload_n 3, 1) := by decide +kernel
theorem dL_law_1306 : decode cL_law 1306 = .ok (.iconst 0, 1) := by decide +kernel
theorem dL_law_1307 : decode cL_law 1307 = .ok (.laload, 1) := by decide +kernel
theorem dL_law_1308 : decode cL_law 1308 = .ok (.iload 6, 2) := by decide +kernel
theorem dL_law_1310 : decode cL_law 1310 = .ok (.i2l, 1) := by decide +kernel
theorem dL_law_1311 : decode cL_law 1311 = .ok (.lcmp, 1) := by decide +kernel
theorem dL_law_1312 : decode cL_law 1312 = .ok (.ifCond .eq 5, 3) := by decide +kernel
theorem dL_law_1315 : decode cL_law 1315 = .ok (.iconst 0, 1) := by decide +kernel
theorem dL_law_1316 : decode cL_law 1316 = .ok (.ireturn, 1) := by decide +kernel
theorem dL_law_1317 : decode cL_law 1317 = .ok (.goto 894, 3) := by decide +kernel
theorem dL_law_1320 : decode cL_law 1320 = .ok (.aload_n 1, 1) := by decide +kernel
theorem dL_law_1321 : decode cL_law 1321 = .ok (.aload_n 0, 1) := by decide +kernel
theorem dL_law_1322 : decode cL_law 1322 = .ok (.iload 4, 2) := by decide +kernel
theorem dL_law_1324 : decode cL_law 1324 = .ok (.iconst 1, 1) := by decide +kernel
theorem dL_law_1325 : decode cL_law 1325 = .ok (.iadd, 1) := by decide +kernel
theorem dL_law_1326 : decode cL_law 1326 = .ok (.iaload, 1) := by decide +kernel
theorem dL_law_1327 : decode cL_law 1327 = .ok (.aload_n 3, 1) := by decide +kernel
theorem dL_law_1328 : decode cL_law 1328 = .ok (.invokestatic 197, 3) := by decide +kernel
theorem dL_law_1331 : decode cL_law 1331 = .ok (.istore 5, 2) := by decide +kernel
theorem dL_law_1333 : decode cL_law 1333 = .ok (.aload_n 2, 1) := by decide +kernel
theorem dL_law_1334 : decode cL_law 1334 = .ok (.aload_n 0, 1) := by decide +kernel
theorem dL_law_1335 : decode cL_law 1335 = .ok (.iload 4, 2) := by decide +kernel
theorem dL_law_1337 : decode cL_law 1337 = .ok (.iconst 1, 1) := by decide +kernel
theorem dL_law_1338 : decode cL_law 1338 = .ok (.iadd, 1) := by decide +kernel
theorem dL_law_1339 : decode cL_law 1339 = .ok (.iaload, 1) := by decide +kernel
theorem dL_law_1340 : decode cL_law 1340 = .ok (.invokevirtual 199, 3) := by decide +kernel
theorem dL_law_1343 : decode cL_law 1343 = .ok (.istore 6, 2) := by decide +kernel
theorem dL_law_1345 : decode cL_law 1345 = .ok (.aload_n 2, 1) := by decide +kernel
theorem dL_law_1346 : decode cL_law 1346 = .ok (.invokevirtual 125, 3) := by decide +kernel
theorem dL_law_1349 : decode cL_law 1349 = .ok (.iload 5, 2) := by decide +kernel
theorem dL_law_1351 : decode cL_law 1351 = .ok (.if_icmp .eq 5, 3) := by decide +kernel
theorem dL_law_1354 : decode cL_law 1354 = .ok (.iconst 0, 1) := by decide +kernel
theorem dL_law_1355 : decode cL_law 1355 = .ok (.ireturn, 1) := by decide +kernel
theorem dL_law_1356 : decode cL_law 1356 = .ok (.iload 5, 2) := by decide +kernel
theorem dL_law_1358 : decode cL_law 1358 = .ok (.ifCond .ne 15, 3) := by decide +kernel
theorem dL_law_1361 : decode cL_law 1361 = .ok (.aload_n 3, 1) := by decide +kernel
theorem dL_law_1362 : decode cL_law 1362 = .ok (.iconst 0, 1) := by decide +kernel
theorem dL_law_1363 : decode cL_law 1363 = .ok (.laload, 1) := by decide +kernel
theorem dL_law_1364 : decode cL_law 1364 = .ok (.iload 6, 2) := by decide +kernel
theorem dL_law_1366 : decode cL_law 1366 = .ok (.i2l, 1) := by decide +kernel
theorem dL_law_1367 : decode cL_law 1367 = .ok (.lcmp, 1) := by decide +kernel
theorem dL_law_1368 : decode cL_law 1368 = .ok (.ifCond .eq 5, 3) := by decide +kernel
theorem dL_law_1371 : decode cL_law 1371 = .ok (.iconst 0, 1) := by decide +kernel
theorem dL_law_1372 : decode cL_law 1372 = .ok (.ireturn, 1) := by decide +kernel
theorem dL_law_1373 : decode cL_law 1373 = .ok (.goto 838, 3) := by decide +kernel
theorem dL_law_1376 : decode cL_law 1376 = .ok (.aload_n 1, 1) := by decide +kernel
theorem dL_law_1377 : decode cL_law 1377 = .ok (.aload_n 0, 1) := by decide +kernel
theorem dL_law_1378 : decode cL_law 1378 = .ok (.iload 4, 2) := by decide +kernel
theorem dL_law_1380 : decode cL_law 1380 = .ok (.iconst 1, 1) := by decide +kernel
theorem dL_law_1381 : decode cL_law 1381 = .ok (.iadd, 1) := by decide +kernel
theorem dL_law_1382 : decode cL_law 1382 = .ok (.iaload, 1) := by decide +kernel
theorem dL_law_1383 : decode cL_law 1383 = .ok (.aload_n 3, 1) := by decide +kernel
theorem dL_law_1384 : decode cL_law 1384 = .ok (.invokestatic 200, 3) := by decide +kernel
theorem dL_law_1387 : decode cL_law 1387 = .ok (.istore 5, 2) := by decide +kernel
theorem dL_law_1389 : decode cL_law 1389 = .ok (.aload_n 2, 1) := by decide +kernel
theorem dL_law_1390 : decode cL_law 1390 = .ok (.aload_n 0, 1) := by decide +kernel
theorem dL_law_1391 : decode cL_law 1391 = .ok (.iload 4, 2) := by decide +kernel
theorem dL_law_1393 : decode cL_law 1393 = .ok (.iconst 1, 1) := by decide +kernel
theorem dL_law_1394 : decode cL_law 1394 = .ok (.iadd, 1) := by decide +kernel
theorem dL_law_1395 : decode cL_law 1395 = .ok (.iaload, 1) := by decide +kernel
theorem dL_law_1396 : decode cL_law 1396 = .ok (.invokevirtual 202, 3) := by decide +kernel
theorem dL_law_1399 : decode cL_law 1399 = .ok (.istore 6, 2) := by decide +kernel
theorem dL_law_1401 : decode cL_law 1401 = .ok (.aload_n 2, 1) := by decide +kernel
theorem dL_law_1402 : decode cL_law 1402 = .ok (.invokevirtual 125, 3) := by decide +kernel
theorem dL_law_1405 : decode cL_law 1405 = .ok (.iload 5, 2) := by decide +kernel
theorem dL_law_1407 : decode cL_law 1407 = .ok (.if_icmp .eq 5, 3) := by decide +kernel
theorem dL_law_1410 : decode cL_law 1410 = .ok (.iconst 0, 1) := by decide +kernel
theorem dL_law_1411 : decode cL_law 1411 = .ok (.ireturn, 1) := by decide +kernel
theorem dL_law_1412 : decode cL_law 1412 = .ok (.iload 5, 2) := by decide +kernel
theorem dL_law_1414 : decode cL_law 1414 = .ok (.ifCond .ne 15, 3) := by decide +kernel
theorem dL_law_1417 : decode cL_law 1417 = .ok (.aload_n 3, 1) := by decide +kernel
theorem dL_law_1418 : decode cL_law 1418 = .ok (.iconst 0, 1) := by decide +kernel
theorem dL_law_1419 : decode cL_law 1419 = .ok (.laload, 1) := by decide +kernel
theorem dL_law_1420 : decode cL_law 1420 = .ok (.iload 6, 2) := by decide +kernel
theorem dL_law_1422 : decode cL_law 1422 = .ok (.i2l, 1) := by decide +kernel
theorem dL_law_1423 : decode cL_law 1423 = .ok (.lcmp, 1) := by decide +kernel
theorem dL_law_1424 : decode cL_law 1424 = .ok (.ifCond .eq 5, 3) := by decide +kernel
theorem dL_law_1427 : decode cL_law 1427 = .ok (.iconst 0, 1) := by decide +kernel
theorem dL_law_1428 : decode cL_law 1428 = .ok (.ireturn, 1) := by decide +kernel
theorem dL_law_1429 : decode cL_law 1429 = .ok (.goto 782, 3) := by decide +kernel
theorem dL_law_1432 : decode cL_law 1432 = .ok (.aload_n 1, 1) := by decide +kernel
theorem dL_law_1433 : decode cL_law 1433 = .ok (.invokevirtual 203, 3) := by decide +kernel
theorem dL_law_1436 : decode cL_law 1436 = .ok (.aload_n 2, 1) := by decide +kernel
theorem dL_law_1437 : decode cL_law 1437 = .ok (.invokevirtual 206, 3) := by decide +kernel
theorem dL_law_1440 : decode cL_law 1440 = .ok (.if_icmp .eq 771, 3) := by decide +kernel
theorem dL_law_1443 : decode cL_law 1443 = .ok (.iconst 0, 1) := by decide +kernel
theorem dL_law_1444 : decode cL_law 1444 = .ok (.ireturn, 1) := by decide +kernel
theorem dL_law_1445 : decode cL_law 1445 = .ok (.aload_n 1, 1) := by decide +kernel
theorem dL_law_1446 : decode cL_law 1446 = .ok (.aload_n 0, 1) := by decide +kernel
theorem dL_law_1447 : decode cL_law 1447 = .ok (.iload 4, 2) := by decide +kernel
theorem dL_law_1449 : decode cL_law 1449 = .ok (.iconst 1, 1) := by decide +kernel
theorem dL_law_1450 : decode cL_law 1450 = .ok (.iadd, 1) := by decide +kernel
theorem dL_law_1451 : decode cL_law 1451 = .ok (.iaload, 1) := by decide +kernel
theorem dL_law_1452 : decode cL_law 1452 = .ok (.aload_n 3, 1) := by decide +kernel
theorem dL_law_1453 : decode cL_law 1453 = .ok (.invokestatic 207, 3) := by decide +kernel
theorem dL_law_1456 : decode cL_law 1456 = .ok (.istore 5, 2) := by decide +kernel
theorem dL_law_1458 : decode cL_law 1458 = .ok (.aload_n 2, 1) := by decide +kernel
theorem dL_law_1459 : decode cL_law 1459 = .ok (.aload_n 0, 1) := by decide +kernel
theorem dL_law_1460 : decode cL_law 1460 = .ok (.iload 4, 2) := by decide +kernel
theorem dL_law_1462 : decode cL_law 1462 = .ok (.iconst 1, 1) := by decide +kernel
theorem dL_law_1463 : decode cL_law 1463 = .ok (.iadd, 1) := by decide +kernel
theorem dL_law_1464 : decode cL_law 1464 = .ok (.iaload, 1) := by decide +kernel
theorem dL_law_1465 : decode cL_law 1465 = .ok (.invokevirtual 209, 3) := by decide +kernel
theorem dL_law_1468 : decode cL_law 1468 = .ok (.istore 6, 2) := by decide +kernel
theorem dL_law_1470 : decode cL_law 1470 = .ok (.aload_n 2, 1) := by decide +kernel
theorem dL_law_1471 : decode cL_law 1471 = .ok (.invokevirtual 125, 3) := by decide +kernel
theorem dL_law_1474 : decode cL_law 1474 = .ok (.iload 5, 2) := by decide +kernel
theorem dL_law_1476 : decode cL_law 1476 = .ok (.if_icmp .eq 5, 3) := by decide +kernel
theorem dL_law_1479 : decode cL_law 1479 = .ok (.iconst 0, 1) := by decide +kernel
theorem dL_law_1480 : decode cL_law 1480 = .ok (.ireturn, 1) := by decide +kernel
theorem dL_law_1481 : decode cL_law 1481 = .ok (.iload 5, 2) := by decide +kernel
theorem dL_law_1483 : decode cL_law 1483 = .ok (.ifCond .ne 15, 3) := by decide +kernel
theorem dL_law_1486 : decode cL_law 1486 = .ok (.aload_n 3, 1) := by decide +kernel
theorem dL_law_1487 : decode cL_law 1487 = .ok (.iconst 0, 1) := by decide +kernel
theorem dL_law_1488 : decode cL_law 1488 = .ok (.laload, 1) := by decide +kernel
theorem dL_law_1489 : decode cL_law 1489 = .ok (.iload 6, 2) := by decide +kernel
theorem dL_law_1491 : decode cL_law 1491 = .ok (.i2l, 1) := by decide +kernel
theorem dL_law_1492 : decode cL_law 1492 = .ok (.lcmp, 1) := by decide +kernel
theorem dL_law_1493 : decode cL_law 1493 = .ok (.ifCond .eq 5, 3) := by decide +kernel
theorem dL_law_1496 : decode cL_law 1496 = .ok (.iconst 0, 1) := by decide +kernel
theorem dL_law_1497 : decode cL_law 1497 = .ok (.ireturn, 1) := by decide +kernel
theorem dL_law_1498 : decode cL_law 1498 = .ok (.goto 713, 3) := by decide +kernel
theorem dL_law_1501 : decode cL_law 1501 = .ok (.aload_n 1, 1) := by decide +kernel
theorem dL_law_1502 : decode cL_law 1502 = .ok (.aload_n 0, 1) := by decide +kernel
theorem dL_law_1503 : decode cL_law 1503 = .ok (.iload 4, 2) := by decide +kernel
theorem dL_law_1505 : decode cL_law 1505 = .ok (.iconst 1, 1) := by decide +kernel
theorem dL_law_1506 : decode cL_law 1506 = .ok (.iadd, 1) := by decide +kernel
theorem dL_law_1507 : decode cL_law 1507 = .ok (.iaload, 1) := by decide +kernel
theorem dL_law_1508 : decode cL_law 1508 = .ok (.aload_n 3, 1) := by decide +kernel
theorem dL_law_1509 : decode cL_law 1509 = .ok (.invokestatic 210, 3) := by decide +kernel
theorem dL_law_1512 : decode cL_law 1512 = .ok (.istore 5, 2) := by decide +kernel
theorem dL_law_1514 : decode cL_law 1514 = .ok (.aload_n 2, 1) := by decide +kernel
theorem dL_law_1515 : decode cL_law 1515 = .ok (.aload_n 0, 1) := by decide +kernel
theorem dL_law_1516 : decode cL_law 1516 = .ok (.iload 4, 2) := by decide +kernel
theorem dL_law_1518 : decode cL_law 1518 = .ok (.iconst 1, 1) := by decide +kernel
theorem dL_law_1519 : decode cL_law 1519 = .ok (.iadd, 1) := by decide +kernel
theorem dL_law_1520 : decode cL_law 1520 = .ok (.iaload, 1) := by decide +kernel
theorem dL_law_1521 : decode cL_law 1521 = .ok (.invokevirtual 212, 3) := by decide +kernel
theorem dL_law_1524 : decode cL_law 1524 = .ok (.istore 6, 2) := by decide +kernel
theorem dL_law_1526 : decode cL_law 1526 = .ok (.aload_n 2, 1) := by decide +kernel
theorem dL_law_1527 : decode cL_law 1527 = .ok (.invokevirtual 125, 3) := by decide +kernel
theorem dL_law_1530 : decode cL_law 1530 = .ok (.iload 5, 2) := by decide +kernel
theorem dL_law_1532 : decode cL_law 1532 = .ok (.if_icmp .eq 5, 3) := by decide +kernel
theorem dL_law_1535 : decode cL_law 1535 = .ok (.iconst 0, 1) := by decide +kernel
theorem dL_law_1536 : decode cL_law 1536 = .ok (.ireturn, 1) := by decide +kernel
theorem dL_law_1537 : decode cL_law 1537 = .ok (.iload 5, 2) := by decide +kernel
theorem dL_law_1539 : decode cL_law 1539 = .ok (.ifCond .ne 15, 3) := by decide +kernel
theorem dL_law_1542 : decode cL_law 1542 = .ok (.aload_n 3, 1) := by decide +kernel
theorem dL_law_1543 : decode cL_law 1543 = .ok (.iconst 0, 1) := by decide +kernel
theorem dL_law_1544 : decode cL_law 1544 = .ok (.laload, 1) := by decide +kernel
theorem dL_law_1545 : decode cL_law 1545 = .ok (.iload 6, 2) := by decide +kernel
theorem dL_law_1547 : decode cL_law 1547 = .ok (.i2l, 1) := by decide +kernel
theorem dL_law_1548 : decode cL_law 1548 = .ok (.lcmp, 1) := by decide +kernel
theorem dL_law_1549 : decode cL_law 1549 = .ok (.ifCond .eq 5, 3) := by decide +kernel
theorem dL_law_1552 : decode cL_law 1552 = .ok (.iconst 0, 1) := by decide +kernel
theorem dL_law_1553 : decode cL_law 1553 = .ok (.ireturn, 1) := by decide +kernel
theorem dL_law_1554 : decode cL_law 1554 = .ok (.goto 657, 3) := by decide +kernel
theorem dL_law_1557 : decode cL_law 1557 = .ok (.aload_n 1, 1) := by decide +kernel
theorem dL_law_1558 : decode cL_law 1558 = .ok (.aload_n 0, 1) := by decide +kernel
theorem dL_law_1559 : decode cL_law 1559 = .ok (.iload 4, 2) := by decide +kernel
theorem dL_law_1561 : decode cL_law 1561 = .ok (.iconst 1, 1) := by decide +kernel
theorem dL_law_1562 : decode cL_law 1562 = .ok (.iadd, 1) := by decide +kernel
theorem dL_law_1563 : decode cL_law 1563 = .ok (.iaload, 1) := by decide +kernel
theorem dL_law_1564 : decode cL_law 1564 = .ok (.aload_n 3, 1) := by decide +kernel
theorem dL_law_1565 : decode cL_law 1565 = .ok (.invokestatic 213, 3) := by decide +kernel
theorem dL_law_1568 : decode cL_law 1568 = .ok (.istore 5, 2) := by decide +kernel
theorem dL_law_1570 : decode cL_law 1570 = .ok (.aload_n 2, 1) := by decide +kernel
theorem dL_law_1571 : decode cL_law 1571 = .ok (.aload_n 0, 1) := by decide +kernel
theorem dL_law_1572 : decode cL_law 1572 = .ok (.iload 4, 2) := by decide +kernel
theorem dL_law_1574 : decode cL_law 1574 = .ok (.iconst 1, 1) := by decide +kernel
theorem dL_law_1575 : decode cL_law 1575 = .ok (.iadd, 1) := by decide +kernel
theorem dL_law_1576 : decode cL_law 1576 = .ok (.iaload, 1) := by decide +kernel
theorem dL_law_1577 : decode cL_law 1577 = .ok (.invokevirtual 215, 3) := by decide +kernel
theorem dL_law_1580 : decode cL_law 1580 = .ok (.istore 6, 2) := by decide +kernel
theorem dL_law_1582 : decode cL_law 1582 = .ok (.aload_n 2, 1) := by decide +kernel
theorem dL_law_1583 : decode cL_law 1583 = .ok (.invokevirtual 125, 3) := by decide +kernel
theorem dL_law_1586 : decode cL_law 1586 = .ok (.iload 5, 2) := by decide +kernel
theorem dL_law_1588 : decode cL_law 1588 = .ok (.if_icmp .eq 5, 3) := by decide +kernel
theorem dL_law_1591 : decode cL_law 1591 = .ok (.iconst 0, 1) := by decide +kernel
theorem dL_law_1592 : decode cL_law 1592 = .ok (.ireturn, 1) := by decide +kernel
theorem dL_law_1593 : decode cL_law 1593 = .ok (.iload 5, 2) := by decide +kernel
theorem dL_law_1595 : decode cL_law 1595 = .ok (.ifCond .ne 15, 3) := by decide +kernel
theorem dL_law_1598 : decode cL_law 1598 = .ok (.aload_n 3, 1) := by decide +kernel
theorem dL_law_1599 : decode cL_law 1599 = .ok (.iconst 0, 1) := by decide +kernel
theorem dL_law_1600 : decode cL_law 1600 = .ok (.laload, 1) := by decide +kernel
theorem dL_law_1601 : decode cL_law 1601 = .ok (.iload 6, 2) := by decide +kernel
theorem dL_law_1603 : decode cL_law 1603 = .ok (.i2l, 1) := by decide +kernel
theorem dL_law_1604 : decode cL_law 1604 = .ok (.lcmp, 1) := by decide +kernel
theorem dL_law_1605 : decode cL_law 1605 = .ok (.ifCond .eq 5, 3) := by decide +kernel
theorem dL_law_1608 : decode cL_law 1608 = .ok (.iconst 0, 1) := by decide +kernel
theorem dL_law_1609 : decode cL_law 1609 = .ok (.ireturn, 1) := by decide +kernel
theorem dL_law_1610 : decode cL_law 1610 = .ok (.goto 601, 3) := by decide +kernel
theorem dL_law_1613 : decode cL_law 1613 = .ok (.aload_n 1, 1) := by decide +kernel
theorem dL_law_1614 : decode cL_law 1614 = .ok (.aload_n 0, 1) := by decide +kernel
theorem dL_law_1615 : decode cL_law 1615 = .ok (.iload 4, 2) := by decide +kernel
theorem dL_law_1617 : decode cL_law 1617 = .ok (.iconst 1, 1) := by decide +kernel
theorem dL_law_1618 : decode cL_law 1618 = .ok (.iadd, 1) := by decide +kernel
theorem dL_law_1619 : decode cL_law 1619 = .ok (.iaload, 1) := by decide +kernel
theorem dL_law_1620 : decode cL_law 1620 = .ok (.aload_n 0, 1) := by decide +kernel
theorem dL_law_1621 : decode cL_law 1621 = .ok (.iload 4, 2) := by decide +kernel
theorem dL_law_1623 : decode cL_law 1623 = .ok (.iconst 2, 1) := by decide +kernel
theorem dL_law_1624 : decode cL_law 1624 = .ok (.iadd, 1) := by decide +kernel
theorem dL_law_1625 : decode cL_law 1625 = .ok (.iaload, 1) := by decide +kernel
theorem dL_law_1626 : decode cL_law 1626 = .ok (.aload_n 3, 1) := by decide +kernel
theorem dL_law_1627 : decode cL_law 1627 = .ok (.invokestatic 216, 3) := by decide +kernel
theorem dL_law_1630 : decode cL_law 1630 = .ok (.istore 5, 2) := by decide +kernel
theorem dL_law_1632 : decode cL_law 1632 = .ok (.aload_n 2, 1) := by decide +kernel
theorem dL_law_1633 : decode cL_law 1633 = .ok (.aload_n 0, 1) := by decide +kernel
theorem dL_law_1634 : decode cL_law 1634 = .ok (.iload 4, 2) := by decide +kernel
theorem dL_law_1636 : decode cL_law 1636 = .ok (.iconst 1, 1) := by decide +kernel
theorem dL_law_1637 : decode cL_law 1637 = .ok (.iadd, 1) := by decide +kernel
theorem dL_law_1638 : decode cL_law 1638 = .ok (.iaload, 1) := by decide +kernel
theorem dL_law_1639 : decode cL_law 1639 = .ok (.aload_n 0, 1) := by decide +kernel
theorem dL_law_1640 : decode cL_law 1640 = .ok (.iload 4, 2) := by decide +kernel
theorem dL_law_1642 : decode cL_law 1642 = .ok (.iconst 2, 1) := by decide +kernel
theorem dL_law_1643 : decode cL_law 1643 = .ok (.iadd, 1) := by decide +kernel
theorem dL_law_1644 : decode cL_law 1644 = .ok (.iaload, 1) := by decide +kernel
theorem dL_law_1645 : decode cL_law 1645 = .ok (.invokevirtual 218, 3) := by decide +kernel
theorem dL_law_1648 : decode cL_law 1648 = .ok (.istore 6, 2) := by decide +kernel
theorem dL_law_1650 : decode cL_law 1650 = .ok (.aload_n 2, 1) := by decide +kernel
theorem dL_law_1651 : decode cL_law 1651 = .ok (.invokevirtual 125, 3) := by decide +kernel
theorem dL_law_1654 : decode cL_law 1654 = .ok (.iload 5, 2) := by decide +kernel
theorem dL_law_1656 : decode cL_law 1656 = .ok (.if_icmp .eq 5, 3) := by decide +kernel
theorem dL_law_1659 : decode cL_law 1659 = .ok (.iconst 0, 1) := by decide +kernel
theorem dL_law_1660 : decode cL_law 1660 = .ok (.ireturn, 1) := by decide +kernel
theorem dL_law_1661 : decode cL_law 1661 = .ok (.iload 5, 2) := by decide +kernel
theorem dL_law_1663 : decode cL_law 1663 = .ok (.ifCond .ne 15, 3) := by decide +kernel
theorem dL_law_1666 : decode cL_law 1666 = .ok (.aload_n 3, 1) := by decide +kernel
theorem dL_law_1667 : decode cL_law 1667 = .ok (.iconst 0, 1) := by decide +kernel
theorem dL_law_1668 : decode cL_law 1668 = .ok (.laload, 1) := by decide +kernel
theorem dL_law_1669 : decode cL_law 1669 = .ok (.iload 6, 2) := by decide +kernel
theorem dL_law_1671 : decode cL_law 1671 = .ok (.i2l, 1) := by decide +kernel
theorem dL_law_1672 : decode cL_law 1672 = .ok (.lcmp, 1) := by decide +kernel
theorem dL_law_1673 : decode cL_law 1673 = .ok (.ifCond .eq 5, 3) := by decide +kernel
theorem dL_law_1676 : decode cL_law 1676 = .ok (.iconst 0, 1) := by decide +kernel
theorem dL_law_1677 : decode cL_law 1677 = .ok (.ireturn, 1) := by decide +kernel
theorem dL_law_1678 : decode cL_law 1678 = .ok (.goto 533, 3) := by decide +kernel
theorem dL_law_1681 : decode cL_law 1681 = .ok (.aload_n 1, 1) := by decide +kernel
theorem dL_law_1682 : decode cL_law 1682 = .ok (.aload_n 0, 1) := by decide +kernel
theorem dL_law_1683 : decode cL_law 1683 = .ok (.iload 4, 2) := by decide +kernel
theorem dL_law_1685 : decode cL_law 1685 = .ok (.iconst 1, 1) := by decide +kernel
theorem dL_law_1686 : decode cL_law 1686 = .ok (.iadd, 1) := by decide +kernel
theorem dL_law_1687 : decode cL_law 1687 = .ok (.iaload, 1) := by decide +kernel
theorem dL_law_1688 : decode cL_law 1688 = .ok (.aload_n 3, 1) := by decide +kernel
theorem dL_law_1689 : decode cL_law 1689 = .ok (.invokestatic 219, 3) := by decide +kernel
theorem dL_law_1692 : decode cL_law 1692 = .ok (.istore 5, 2) := by decide +kernel
theorem dL_law_1694 : decode cL_law 1694 = .ok (.aload_n 2, 1) := by decide +kernel
theorem dL_law_1695 : decode cL_law 1695 = .ok (.aload_n 0, 1) := by decide +kernel
theorem dL_law_1696 : decode cL_law 1696 = .ok (.iload 4, 2) := by decide +kernel
theorem dL_law_1698 : decode cL_law 1698 = .ok (.iconst 1, 1) := by decide +kernel
theorem dL_law_1699 : decode cL_law 1699 = .ok (.iadd, 1) := by decide +kernel
theorem dL_law_1700 : decode cL_law 1700 = .ok (.iaload, 1) := by decide +kernel
theorem dL_law_1701 : decode cL_law 1701 = .ok (.invokevirtual 221, 3) := by decide +kernel
theorem dL_law_1704 : decode cL_law 1704 = .ok (.istore 6, 2) := by decide +kernel
theorem dL_law_1706 : decode cL_law 1706 = .ok (.aload_n 2, 1) := by decide +kernel
theorem dL_law_1707 : decode cL_law 1707 = .ok (.invokevirtual 125, 3) := by decide +kernel
theorem dL_law_1710 : decode cL_law 1710 = .ok (.iload 5, 2) := by decide +kernel
theorem dL_law_1712 : decode cL_law 1712 = .ok (.if_icmp .eq 5, 3) := by decide +kernel
theorem dL_law_1715 : decode cL_law 1715 = .ok (.iconst 0, 1) := by decide +kernel
theorem dL_law_1716 : decode cL_law 1716 = .ok (.ireturn, 1) := by decide +kernel
theorem dL_law_1717 : decode cL_law 1717 = .ok (.iload 5, 2) := by decide +kernel
theorem dL_law_1719 : decode cL_law 1719 = .ok (.ifCond .ne 15, 3) := by decide +kernel
theorem dL_law_1722 : decode cL_law 1722 = .ok (.aload_n 3, 1) := by decide +kernel
theorem dL_law_1723 : decode cL_law 1723 = .ok (.iconst 0, 1) := by decide +kernel
theorem dL_law_1724 : decode cL_law 1724 = .ok (.laload, 1) := by decide +kernel
theorem dL_law_1725 : decode cL_law 1725 = .ok (.iload 6, 2) := by decide +kernel
theorem dL_law_1727 : decode cL_law 1727 = .ok (.i2l, 1) := by decide +kernel
theorem dL_law_1728 : decode cL_law 1728 = .ok (.lcmp, 1) := by decide +kernel
theorem dL_law_1729 : decode cL_law 1729 = .ok (.ifCond .eq 5, 3) := by decide +kernel
theorem dL_law_1732 : decode cL_law 1732 = .ok (.iconst 0, 1) := by decide +kernel
theorem dL_law_1733 : decode cL_law 1733 = .ok (.ireturn, 1) := by decide +kernel
theorem dL_law_1734 : decode cL_law 1734 = .ok (.goto 477, 3) := by decide +kernel
theorem dL_law_1737 : decode cL_law 1737 = .ok (.aload_n 1, 1) := by decide +kernel
theorem dL_law_1738 : decode cL_law 1738 = .ok (.aload_n 0, 1) := by decide +kernel
theorem dL_law_1739 : decode cL_law 1739 = .ok (.iload 4, 2) := by decide +kernel
theorem dL_law_1741 : decode cL_law 1741 = .ok (.iconst 1, 1) := by decide +kernel
theorem dL_law_1742 : decode cL_law 1742 = .ok (.iadd, 1) := by decide +kernel
theorem dL_law_1743 : decode cL_law 1743 = .ok (.iaload, 1) := by decide +kernel
theorem dL_law_1744 : decode cL_law 1744 = .ok (.aload_n 3, 1) := by decide +kernel
theorem dL_law_1745 : decode cL_law 1745 = .ok (.invokestatic 222, 3) := by decide +kernel
theorem dL_law_1748 : decode cL_law 1748 = .ok (.istore 5, 2) := by decide +kernel
theorem dL_law_1750 : decode cL_law 1750 = .ok (.aload_n 2, 1) := by decide +kernel
theorem dL_law_1751 : decode cL_law 1751 = .ok (.aload_n 0, 1) := by decide +kernel
theorem dL_law_1752 : decode cL_law 1752 = .ok (.iload 4, 2) := by decide +kernel
theorem dL_law_1754 : decode cL_law 1754 = .ok (.iconst 1, 1) := by decide +kernel
theorem dL_law_1755 : decode cL_law 1755 = .ok (.iadd, 1) := by decide +kernel
theorem dL_law_1756 : decode cL_law 1756 = .ok (.iaload, 1) := by decide +kernel
theorem dL_law_1757 : decode cL_law 1757 = .ok (.invokevirtual 224, 3) := by decide +kernel
theorem dL_law_1760 : decode cL_law 1760 = .ok (.istore 6, 2) := by decide +kernel
theorem dL_law_1762 : decode cL_law 1762 = .ok (.aload_n 2, 1) := by decide +kernel
theorem dL_law_1763 : decode cL_law 1763 = .ok (.invokevirtual 125, 3) := by decide +kernel
theorem dL_law_1766 : decode cL_law 1766 = .ok (.iload 5, 2) := by decide +kernel
theorem dL_law_1768 : decode cL_law 1768 = .ok (.if_icmp .eq 5, 3) := by decide +kernel
theorem dL_law_1771 : decode cL_law 1771 = .ok (.iconst 0, 1) := by decide +kernel
theorem dL_law_1772 : decode cL_law 1772 = .ok (.ireturn, 1) := by decide +kernel
theorem dL_law_1773 : decode cL_law 1773 = .ok (.iload 5, 2) := by decide +kernel
theorem dL_law_1775 : decode cL_law 1775 = .ok (.ifCond .ne 15, 3) := by decide +kernel
theorem dL_law_1778 : decode cL_law 1778 = .ok (.aload_n 3, 1) := by decide +kernel
theorem dL_law_1779 : decode cL_law 1779 = .ok (.iconst 0, 1) := by decide +kernel
theorem dL_law_1780 : decode cL_law 1780 = .ok (.laload, 1) := by decide +kernel
theorem dL_law_1781 : decode cL_law 1781 = .ok (.iload 6, 2) := by decide +kernel
theorem dL_law_1783 : decode cL_law 1783 = .ok (.i2l, 1) := by decide +kernel
theorem dL_law_1784 : decode cL_law 1784 = .ok (.lcmp, 1) := by decide +kernel
theorem dL_law_1785 : decode cL_law 1785 = .ok (.ifCond .eq 5, 3) := by decide +kernel
theorem dL_law_1788 : decode cL_law 1788 = .ok (.iconst 0, 1) := by decide +kernel
theorem dL_law_1789 : decode cL_law 1789 = .ok (.ireturn, 1) := by decide +kernel
theorem dL_law_1790 : decode cL_law 1790 = .ok (.goto 421, 3) := by decide +kernel
theorem dL_law_1793 : decode cL_law 1793 = .ok (.aload_n 1, 1) := by decide +kernel
theorem dL_law_1794 : decode cL_law 1794 = .ok (.aload_n 0, 1) := by decide +kernel
theorem dL_law_1795 : decode cL_law 1795 = .ok (.iload 4, 2) := by decide +kernel
theorem dL_law_1797 : decode cL_law 1797 = .ok (.iconst 1, 1) := by decide +kernel
theorem dL_law_1798 : decode cL_law 1798 = .ok (.iadd, 1) := by decide +kernel
theorem dL_law_1799 : decode cL_law 1799 = .ok (.iaload, 1) := by decide +kernel
theorem dL_law_1800 : decode cL_law 1800 = .ok (.aload_n 3, 1) := by decide +kernel
theorem dL_law_1801 : decode cL_law 1801 = .ok (.invokestatic 225, 3) := by decide +kernel
theorem dL_law_1804 : decode cL_law 1804 = .ok (.istore 5, 2) := by decide +kernel
theorem dL_law_1806 : decode cL_law 1806 = .ok (.aload_n 2, 1) := by decide +kernel
theorem dL_law_1807 : decode cL_law 1807 = .ok (.aload_n 0, 1) := by decide +kernel
theorem dL_law_1808 : decode cL_law 1808 = .ok (.iload 4, 2) := by decide +kernel
theorem dL_law_1810 : decode cL_law 1810 = .ok (.iconst 1, 1) := by decide +kernel
theorem dL_law_1811 : decode cL_law 1811 = .ok (.iadd, 1) := by decide +kernel
theorem dL_law_1812 : decode cL_law 1812 = .ok (.iaload, 1) := by decide +kernel
theorem dL_law_1813 : decode cL_law 1813 = .ok (.invokevirtual 227, 3) := by decide +kernel
theorem dL_law_1816 : decode cL_law 1816 = .ok (.istore 6, 2) := by decide +kernel
theorem dL_law_1818 : decode cL_law 1818 = .ok (.aload_n 2, 1) := by decide +kernel
theorem dL_law_1819 : decode cL_law 1819 = .ok (.invokevirtual 125, 3) := by decide +kernel
theorem dL_law_1822 : decode cL_law 1822 = .ok (.iload 5, 2) := by decide +kernel
theorem dL_law_1824 : decode cL_law 1824 = .ok (.if_icmp .eq 5, 3) := by decide +kernel
theorem dL_law_1827 : decode cL_law 1827 = .ok (.iconst 0, 1) := by decide +kernel
theorem dL_law_1828 : decode cL_law 1828 = .ok (.ireturn, 1) := by decide +kernel
theorem dL_law_1829 : decode cL_law 1829 = .ok (.iload 5, 2) := by decide +kernel
theorem dL_law_1831 : decode cL_law 1831 = .ok (.ifCond .ne 22, 3) := by decide +kernel
theorem dL_law_1834 : decode cL_law 1834 = .ok (.aload_n 3, 1) := by decide +kernel
theorem dL_law_1835 : decode cL_law 1835 = .ok (.iconst 0, 1) := by decide +kernel
theorem dL_law_1836 : decode cL_law 1836 = .ok (.laload, 1) := by decide +kernel
theorem dL_law_1837 : decode cL_law 1837 = .ok (.iload 6, 2) := by decide +kernel
theorem dL_law_1839 : decode cL_law 1839 = .ok (.ifCond .eq 7, 3) := by decide +kernel
theorem dL_law_1842 : decode cL_law 1842 = .ok (.lconst 1, 1) := by decide +kernel
theorem dL_law_1843 : decode cL_law 1843 = .ok (.goto 4, 3) := by decide +kernel
theorem dL_law_1846 : decode cL_law 1846 = .ok (.lconst 0, 1) := by decide +kernel
theorem dL_law_1847 : decode cL_law 1847 = .ok (.lcmp, 1) := by decide +kernel
theorem dL_law_1848 : decode cL_law 1848 = .ok (.ifCond .eq 5, 3) := by decide +kernel
theorem dL_law_1851 : decode cL_law 1851 = .ok (.iconst 0, 1) := by decide +kernel
theorem dL_law_1852 : decode cL_law 1852 = .ok (.ireturn, 1) := by decide +kernel
theorem dL_law_1853 : decode cL_law 1853 = .ok (.goto 358, 3) := by decide +kernel
theorem dL_law_1856 : decode cL_law 1856 = .ok (.aload_n 1, 1) := by decide +kernel
theorem dL_law_1857 : decode cL_law 1857 = .ok (.aload_n 0, 1) := by decide +kernel
theorem dL_law_1858 : decode cL_law 1858 = .ok (.iload 4, 2) := by decide +kernel
theorem dL_law_1860 : decode cL_law 1860 = .ok (.iconst 1, 1) := by decide +kernel
theorem dL_law_1861 : decode cL_law 1861 = .ok (.iadd, 1) := by decide +kernel
theorem dL_law_1862 : decode cL_law 1862 = .ok (.iaload, 1) := by decide +kernel
theorem dL_law_1863 : decode cL_law 1863 = .ok (.aload_n 3, 1) := by decide +kernel
theorem dL_law_1864 : decode cL_law 1864 = .ok (.invokestatic 228, 3) := by decide +kernel
theorem dL_law_1867 : decode cL_law 1867 = .ok (.istore 5, 2) := by decide +kernel
theorem dL_law_1869 : decode cL_law 1869 = .ok (.aload_n 2, 1) := by decide +kernel
theorem dL_law_1870 : decode cL_law 1870 = .ok (.aload_n 0, 1) := by decide +kernel
theorem dL_law_1871 : decode cL_law 1871 = .ok (.iload 4, 2) := by decide +kernel
theorem dL_law_1873 : decode cL_law 1873 = .ok (.iconst 1, 1) := by decide +kernel
theorem dL_law_1874 : decode cL_law 1874 = .ok (.iadd, 1) := by decide +kernel
theorem dL_law_1875 : decode cL_law 1875 = .ok (.iaload, 1) := by decide +kernel
theorem dL_law_1876 : decode cL_law 1876 = .ok (.invokevirtual 230, 3) := by decide +kernel
theorem dL_law_1879 : decode cL_law 1879 = .ok (.istore 6, 2) := by decide +kernel
theorem dL_law_1881 : decode cL_law 1881 = .ok (.aload_n 2, 1) := by decide +kernel
theorem dL_law_1882 : decode cL_law 1882 = .ok (.invokevirtual 125, 3) := by decide +kernel
theorem dL_law_1885 : decode cL_law 1885 = .ok (.iload 5, 2) := by decide +kernel
theorem dL_law_1887 : decode cL_law 1887 = .ok (.if_icmp .eq 5, 3) := by decide +kernel
theorem dL_law_1890 : decode cL_law 1890 = .ok (.iconst 0, 1) := by decide +kernel
theorem dL_law_1891 : decode cL_law 1891 = .ok (.ireturn, 1) := by decide +kernel
theorem dL_law_1892 : decode cL_law 1892 = .ok (.iload 5, 2) := by decide +kernel
theorem dL_law_1894 : decode cL_law 1894 = .ok (.ifCond .ne 22, 3) := by decide +kernel
theorem dL_law_1897 : decode cL_law 1897 = .ok (.aload_n 3, 1) := by decide +kernel
theorem dL_law_1898 : decode cL_law 1898 = .ok (.iconst 0, 1) := by decide +kernel
theorem dL_law_1899 : decode cL_law 1899 = .ok (.laload, 1) := by decide +kernel
theorem dL_law_1900 : decode cL_law 1900 = .ok (.iload 6, 2) := by decide +kernel
theorem dL_law_1902 : decode cL_law 1902 = .ok (.ifCond .eq 7, 3) := by decide +kernel
theorem dL_law_1905 : decode cL_law 1905 = .ok (.lconst 1, 1) := by decide +kernel
theorem dL_law_1906 : decode cL_law 1906 = .ok (.goto 4, 3) := by decide +kernel
theorem dL_law_1909 : decode cL_law 1909 = .ok (.lconst 0, 1) := by decide +kernel
theorem dL_law_1910 : decode cL_law 1910 = .ok (.lcmp, 1) := by decide +kernel
theorem dL_law_1911 : decode cL_law 1911 = .ok (.ifCond .eq 5, 3) := by decide +kernel
theorem dL_law_1914 : decode cL_law 1914 = .ok (.iconst 0, 1) := by decide +kernel
theorem dL_law_1915 : decode cL_law 1915 = .ok (.ireturn, 1) := by decide +kernel
theorem dL_law_1916 : decode cL_law 1916 = .ok (.goto 295, 3) := by decide +kernel
theorem dL_law_1919 : decode cL_law 1919 = .ok (.aload_n 1, 1) := by decide +kernel
theorem dL_law_1920 : decode cL_law 1920 = .ok (.aload_n 0, 1) := by decide +kernel
theorem dL_law_1921 : decode cL_law 1921 = .ok (.iload 4, 2) := by decide +kernel
theorem dL_law_1923 : decode cL_law 1923 = .ok (.iconst 1, 1) := by decide +kernel
theorem dL_law_1924 : decode cL_law 1924 = .ok (.iadd, 1) := by decide +kernel
theorem dL_law_1925 : decode cL_law 1925 = .ok (.iaload, 1) := by decide +kernel
theorem dL_law_1926 : decode cL_law 1926 = .ok (.aload_n 3, 1) := by decide +kernel
theorem dL_law_1927 : decode cL_law 1927 = .ok (.invokestatic 231, 3) := by decide +kernel
theorem dL_law_1930 : decode cL_law 1930 = .ok (.istore 5, 2) := by decide +kernel
theorem dL_law_1932 : decode cL_law 1932 = .ok (.aload_n 2, 1) := by decide +kernel
theorem dL_law_1933 : decode cL_law 1933 = .ok (.aload_n 0, 1) := by decide +kernel
theorem dL_law_1934 : decode cL_law 1934 = .ok (.iload 4, 2) := by decide +kernel
theorem dL_law_1936 : decode cL_law 1936 = .ok (.iconst 1, 1) := by decide +kernel
theorem dL_law_1937 : decode cL_law 1937 = .ok (.iadd, 1) := by decide +kernel
theorem dL_law_1938 : decode cL_law 1938 = .ok (.iaload, 1) := by decide +kernel
theorem dL_law_1939 : decode cL_law 1939 = .ok (.invokevirtual 233, 3) := by decide +kernel
theorem dL_law_1942 : decode cL_law 1942 = .ok (.istore 6, 2) := by decide +kernel
theorem dL_law_1944 : decode cL_law 1944 = .ok (.aload_n 2, 1) := by decide +kernel
theorem dL_law_1945 : decode cL_law 1945 = .ok (.invokevirtual 125, 3) := by decide +kernel
theorem dL_law_1948 : decode cL_law 1948 = .ok (.iload 5, 2) := by decide +kernel
theorem dL_law_1950 : decode cL_law 1950 = .ok (.if_icmp .eq 5, 3) := by decide +kernel
theorem dL_law_1953 : decode cL_law 1953 = .ok (.iconst 0, 1) := by decide +kernel
theorem dL_law_1954 : decode cL_law 1954 = .ok (.ireturn, 1) := by decide +kernel
theorem dL_law_1955 : decode cL_law 1955 = .ok (.iload 5, 2) := by decide +kernel
theorem dL_law_1957 : decode cL_law 1957 = .ok (.ifCond .ne 15, 3) := by decide +kernel
theorem dL_law_1960 : decode cL_law 1960 = .ok (.aload_n 3, 1) := by decide +kernel
theorem dL_law_1961 : decode cL_law 1961 = .ok (.iconst 0, 1) := by decide +kernel
theorem dL_law_1962 : decode cL_law 1962 = .ok (.laload, 1) := by decide +kernel
theorem dL_law_1963 : decode cL_law 1963 = .ok (.iload 6, 2) := by decide +kernel
theorem dL_law_1965 : decode cL_law 1965 = .ok (.i2l, 1) := by decide +kernel
theorem dL_law_1966 : decode cL_law 1966 = .ok (.lcmp, 1) := by decide +kernel
theorem dL_law_1967 : decode cL_law 1967 = .ok (.ifCond .eq 5, 3) := by decide +kernel
theorem dL_law_1970 : decode cL_law 1970 = .ok (.iconst 0, 1) := by decide +kernel
theorem dL_law_1971 : decode cL_law 1971 = .ok (.ireturn, 1) := by decide +kernel
theorem dL_law_1972 : decode cL_law 1972 = .ok (.goto 239, 3) := by decide +kernel
theorem dL_law_1975 : decode cL_law 1975 = .ok (.aload_n 1, 1) := by decide +kernel
theorem dL_law_1976 : decode cL_law 1976 = .ok (.aload_n 0, 1) := by decide +kernel
theorem dL_law_1977 : decode cL_law 1977 = .ok (.iload 4, 2) := by decide +kernel
theorem dL_law_1979 : decode cL_law 1979 = .ok (.iconst 1, 1) := by decide +kernel
theorem dL_law_1980 : decode cL_law 1980 = .ok (.iadd, 1) := by decide +kernel
theorem dL_law_1981 : decode cL_law 1981 = .ok (.iaload, 1) := by decide +kernel
theorem dL_law_1982 : decode cL_law 1982 = .ok (.aload_n 3, 1) := by decide +kernel
theorem dL_law_1983 : decode cL_law 1983 = .ok (.invokestatic 234, 3) := by decide +kernel
theorem dL_law_1986 : decode cL_law 1986 = .ok (.istore 5, 2) := by decide +kernel
theorem dL_law_1988 : decode cL_law 1988 = .ok (.aload_n 2, 1) := by decide +kernel
theorem dL_law_1989 : decode cL_law 1989 = .ok (.aload_n 0, 1) := by decide +kernel
theorem dL_law_1990 : decode cL_law 1990 = .ok (.iload 4, 2) := by decide +kernel
theorem dL_law_1992 : decode cL_law 1992 = .ok (.iconst 1, 1) := by decide +kernel
theorem dL_law_1993 : decode cL_law 1993 = .ok (.iadd, 1) := by decide +kernel
theorem dL_law_1994 : decode cL_law 1994 = .ok (.iaload, 1) := by decide +kernel
theorem dL_law_1995 : decode cL_law 1995 = .ok (.invokevirtual 236, 3) := by decide +kernel
theorem dL_law_1998 : decode cL_law 1998 = .ok (.istore 6, 2) := by decide +kernel
theorem dL_law_2000 : decode cL_law 2000 = .ok (.aload_n 2, 1) := by decide +kernel
theorem dL_law_2001 : decode cL_law 2001 = .ok (.invokevirtual 125, 3) := by decide +kernel
theorem dL_law_2004 : decode cL_law 2004 = .ok (.iload 5, 2) := by decide +kernel
theorem dL_law_2006 : decode cL_law 2006 = .ok (.if_icmp .eq 5, 3) := by decide +kernel
theorem dL_law_2009 : decode cL_law 2009 = .ok (.iconst 0, 1) := by decide +kernel
theorem dL_law_2010 : decode cL_law 2010 = .ok (.ireturn, 1) := by decide +kernel
theorem dL_law_2011 : decode cL_law 2011 = .ok (.iload 5, 2) := by decide +kernel
theorem dL_law_2013 : decode cL_law 2013 = .ok (.ifCond .ne 15, 3) := by decide +kernel
theorem dL_law_2016 : decode cL_law 2016 = .ok (.aload_n 3, 1) := by decide +kernel
theorem dL_law_2017 : decode cL_law 2017 = .ok (.iconst 0, 1) := by decide +kernel
theorem dL_law_2018 : decode cL_law 2018 = .ok (.laload, 1) := by decide +kernel
theorem dL_law_2019 : decode cL_law 2019 = .ok (.iload 6, 2) := by decide +kernel
theorem dL_law_2021 : decode cL_law 2021 = .ok (.i2l, 1) := by decide +kernel
theorem dL_law_2022 : decode cL_law 2022 = .ok (.lcmp, 1) := by decide +kernel
theorem dL_law_2023 : decode cL_law 2023 = .ok (.ifCond .eq 5, 3) := by decide +kernel
theorem dL_law_2026 : decode cL_law 2026 = .ok (.iconst 0, 1) := by decide +kernel
theorem dL_law_2027 : decode cL_law 2027 = .ok (.ireturn, 1) := by decide +kernel
theorem dL_law_2028 : decode cL_law 2028 = .ok (.goto 183, 3) := by decide +kernel
theorem dL_law_2031 : decode cL_law 2031 = .ok (.aload_n 1, 1) := by decide +kernel
theorem dL_law_2032 : decode cL_law 2032 = .ok (.invokevirtual 237, 3) := by decide +kernel
theorem dL_law_2035 : decode cL_law 2035 = .ok (.aload_n 2, 1) := by decide +kernel
theorem dL_law_2036 : decode cL_law 2036 = .ok (.invokevirtual 240, 3) := by decide +kernel
theorem dL_law_2039 : decode cL_law 2039 = .ok (.if_icmp .eq 172, 3) := by decide +kernel
theorem dL_law_2042 : decode cL_law 2042 = .ok (.iconst 0, 1) := by decide +kernel
theorem dL_law_2043 : decode cL_law 2043 = .ok (.ireturn, 1) := by decide +kernel
theorem dL_law_2044 : decode cL_law 2044 = .ok (.aload_n 1, 1) := by decide +kernel
theorem dL_law_2045 : decode cL_law 2045 = .ok (.aload_n 0, 1) := by decide +kernel
theorem dL_law_2046 : decode cL_law 2046 = .ok (.iload 4, 2) := by decide +kernel
theorem dL_law_2048 : decode cL_law 2048 = .ok (.iconst 1, 1) := by decide +kernel
theorem dL_law_2049 : decode cL_law 2049 = .ok (.iadd, 1) := by decide +kernel
theorem dL_law_2050 : decode cL_law 2050 = .ok (.iaload, 1) := by decide +kernel
theorem dL_law_2051 : decode cL_law 2051 = .ok (.aload_n 3, 1) := by decide +kernel
theorem dL_law_2052 : decode cL_law 2052 = .ok (.invokestatic 241, 3) := by decide +kernel
theorem dL_law_2055 : decode cL_law 2055 = .ok (.istore 5, 2) := by decide +kernel
theorem dL_law_2057 : decode cL_law 2057 = .ok (.aload_n 2, 1) := by decide +kernel
theorem dL_law_2058 : decode cL_law 2058 = .ok (.aload_n 0, 1) := by decide +kernel
theorem dL_law_2059 : decode cL_law 2059 = .ok (.iload 4, 2) := by decide +kernel
theorem dL_law_2061 : decode cL_law 2061 = .ok (.iconst 1, 1) := by decide +kernel
theorem dL_law_2062 : decode cL_law 2062 = .ok (.iadd, 1) := by decide +kernel
theorem dL_law_2063 : decode cL_law 2063 = .ok (.iaload, 1) := by decide +kernel
theorem dL_law_2064 : decode cL_law 2064 = .ok (.invokevirtual 243, 3) := by decide +kernel
theorem dL_law_2067 : decode cL_law 2067 = .ok (.istore 6, 2) := by decide +kernel
theorem dL_law_2069 : decode cL_law 2069 = .ok (.aload_n 2, 1) := by decide +kernel
theorem dL_law_2070 : decode cL_law 2070 = .ok (.invokevirtual 125, 3) := by decide +kernel
theorem dL_law_2073 : decode cL_law 2073 = .ok (.iload 5, 2) := by decide +kernel
theorem dL_law_2075 : decode cL_law 2075 = .ok (.if_icmp .eq 5, 3) := by decide +kernel
theorem dL_law_2078 : decode cL_law 2078 = .ok (.iconst 0, 1) := by decide +kernel
theorem dL_law_2079 : decode cL_law 2079 = .ok (.ireturn, 1) := by decide +kernel
theorem dL_law_2080 : decode cL_law 2080 = .ok (.iload 5, 2) := by decide +kernel
theorem dL_law_2082 : decode cL_law 2082 = .ok (.ifCond .ne 15, 3) := by decide +kernel
theorem dL_law_2085 : decode cL_law 2085 = .ok (.aload_n 3, 1) := by decide +kernel
theorem dL_law_2086 : decode cL_law 2086 = .ok (.iconst 0, 1) := by decide +kernel
theorem dL_law_2087 : decode cL_law 2087 = .ok (.laload, 1) := by decide +kernel
theorem dL_law_2088 : decode cL_law 2088 = .ok (.iload 6, 2) := by decide +kernel
theorem dL_law_2090 : decode cL_law 2090 = .ok (.i2l, 1) := by decide +kernel
theorem dL_law_2091 : decode cL_law 2091 = .ok (.lcmp, 1) := by decide +kernel
theorem dL_law_2092 : decode cL_law 2092 = .ok (.ifCond .eq 5, 3) := by decide +kernel
theorem dL_law_2095 : decode cL_law 2095 = .ok (.iconst 0, 1) := by decide +kernel
theorem dL_law_2096 : decode cL_law 2096 = .ok (.ireturn, 1) := by decide +kernel
theorem dL_law_2097 : decode cL_law 2097 = .ok (.goto 114, 3) := by decide +kernel
theorem dL_law_2100 : decode cL_law 2100 = .ok (.aload_n 1, 1) := by decide +kernel
theorem dL_law_2101 : decode cL_law 2101 = .ok (.aload_n 0, 1) := by decide +kernel
theorem dL_law_2102 : decode cL_law 2102 = .ok (.iload 4, 2) := by decide +kernel
theorem dL_law_2104 : decode cL_law 2104 = .ok (.iconst 1, 1) := by decide +kernel
theorem dL_law_2105 : decode cL_law 2105 = .ok (.iadd, 1) := by decide +kernel
theorem dL_law_2106 : decode cL_law 2106 = .ok (.iaload, 1) := by decide +kernel
theorem dL_law_2107 : decode cL_law 2107 = .ok (.aload_n 3, 1) := by decide +kernel
theorem dL_law_2108 : decode cL_law 2108 = .ok (.invokestatic 244, 3) := by decide +kernel
theorem dL_law_2111 : decode cL_law 2111 = .ok (.istore 5, 2) := by decide +kernel
theorem dL_law_2113 : decode cL_law 2113 = .ok (.aload_n 2, 1) := by decide +kernel
theorem dL_law_2114 : decode cL_law 2114 = .ok (.aload_n 0, 1) := by decide +kernel
theorem dL_law_2115 : decode cL_law 2115 = .ok (.iload 4, 2) := by decide +kernel
theorem dL_law_2117 : decode cL_law 2117 = .ok (.iconst 1, 1) := by decide +kernel
theorem dL_law_2118 : decode cL_law 2118 = .ok (.iadd, 1) := by decide +kernel
theorem dL_law_2119 : decode cL_law 2119 = .ok (.iaload, 1) := by decide +kernel
theorem dL_law_2120 : decode cL_law 2120 = .ok (.invokevirtual 246, 3) := by decide +kernel
theorem dL_law_2123 : decode cL_law 2123 = .ok (.istore 6, 2) := by decide +kernel
theorem dL_law_2125 : decode cL_law 2125 = .ok (.aload_n 2, 1) := by decide +kernel
theorem dL_law_2126 : decode cL_law 2126 = .ok (.invokevirtual 125, 3) := by decide +kernel
theorem dL_law_2129 : decode cL_law 2129 = .ok (.iload 5, 2) := by decide +kernel
theorem dL_law_2131 : decode cL_law 2131 = .ok (.if_icmp .eq 5, 3) := by decide +kernel
theorem dL_law_2134 : decode cL_law 2134 = .ok (.iconst 0, 1) := by decide +kernel
theorem dL_law_2135 : decode cL_law 2135 = .ok (.ireturn, 1) := by decide +kernel
theorem dL_law_2136 : decode cL_law 2136 = .ok (.iload 5, 2) := by decide +kernel
theorem dL_law_2138 : decode cL_law 2138 = .ok (.ifCond .ne 15, 3) := by decide +kernel
theorem dL_law_2141 : decode cL_law 2141 = .ok (.aload_n 3, 1) := by decide +kernel
theorem dL_law_2142 : decode cL_law 2142 = .ok (.iconst 0, 1) := by decide +kernel
theorem dL_law_2143 : decode cL_law 2143 = .ok (.laload, 1) := by decide +kernel
theorem dL_law_2144 : decode cL_law 2144 = .ok (.iload 6, 2) := by decide +kernel
theorem dL_law_2146 : decode cL_law 2146 = .ok (.i2l, 1) := by decide +kernel
theorem dL_law_2147 : decode cL_law 2147 = .ok (.lcmp, 1) := by decide +kernel
theorem dL_law_2148 : decode cL_law 2148 = .ok (.ifCond .eq 5, 3) := by decide +kernel
theorem dL_law_2151 : decode cL_law 2151 = .ok (.iconst 0, 1) := by decide +kernel
theorem dL_law_2152 : decode cL_law 2152 = .ok (.ireturn, 1) := by decide +kernel
theorem dL_law_2153 : decode cL_law 2153 = .ok (.goto 58, 3) := by decide +kernel
theorem dL_law_2156 : decode cL_law 2156 = .ok (.aload_n 1, 1) := by decide +kernel
theorem dL_law_2157 : decode cL_law 2157 = .ok (.invokevirtual 247, 3) := by decide +kernel
theorem dL_law_2160 : decode cL_law 2160 = .ok (.dstore 5, 2) := by decide +kernel
theorem dL_law_2162 : decode cL_law 2162 = .ok (.aload_n 2, 1) := by decide +kernel
theorem dL_law_2163 : decode cL_law 2163 = .ok (.invokevirtual 251, 3) := by decide +kernel
theorem dL_law_2166 : decode cL_law 2166 = .ok (.dstore 7, 2) := by decide +kernel
theorem dL_law_2168 : decode cL_law 2168 = .ok (.dload 5, 2) := by decide +kernel
theorem dL_law_2170 : decode cL_law 2170 = .ok (.dload 7, 2) := by decide +kernel
theorem dL_law_2172 : decode cL_law 2172 = .ok (.dcmp .l, 1) := by decide +kernel
theorem dL_law_2173 : decode cL_law 2173 = .ok (.ifCond .eq 21, 3) := by decide +kernel
theorem dL_law_2176 : decode cL_law 2176 = .ok (.dload 5, 2) := by decide +kernel
theorem dL_law_2178 : decode cL_law 2178 = .ok (.dload 5, 2) := by decide +kernel
theorem dL_law_2180 : decode cL_law 2180 = .ok (.dcmp .l, 1) := by decide +kernel
theorem dL_law_2181 : decode cL_law 2181 = .ok (.ifCond .eq 11, 3) := by decide +kernel
theorem dL_law_2184 : decode cL_law 2184 = .ok (.dload 7, 2) := by decide +kernel
theorem dL_law_2186 : decode cL_law 2186 = .ok (.dload 7, 2) := by decide +kernel
theorem dL_law_2188 : decode cL_law 2188 = .ok (.dcmp .l, 1) := by decide +kernel
theorem dL_law_2189 : decode cL_law 2189 = .ok (.ifCond .ne 5, 3) := by decide +kernel
theorem dL_law_2192 : decode cL_law 2192 = .ok (.iconst 0, 1) := by decide +kernel
theorem dL_law_2193 : decode cL_law 2193 = .ok (.ireturn, 1) := by decide +kernel
theorem dL_law_2194 : decode cL_law 2194 = .ok (.goto 17, 3) := by decide +kernel
theorem dL_law_2197 : decode cL_law 2197 = .ok (.aload_n 1, 1) := by decide +kernel
theorem dL_law_2198 : decode cL_law 2198 = .ok (.invokevirtual 252, 3) := by decide +kernel
theorem dL_law_2201 : decode cL_law 2201 = .ok (.aload_n 2, 1) := by decide +kernel
theorem dL_law_2202 : decode cL_law 2202 = .ok (.invokevirtual 256, 3) := by decide +kernel
theorem dL_law_2205 : decode cL_law 2205 = .ok (.lcmp, 1) := by decide +kernel
theorem dL_law_2206 : decode cL_law 2206 = .ok (.ifCond .eq 5, 3) := by decide +kernel
theorem dL_law_2209 : decode cL_law 2209 = .ok (.iconst 0, 1) := by decide +kernel
theorem dL_law_2210 : decode cL_law 2210 = .ok (.ireturn, 1) := by decide +kernel
theorem dL_law_2211 : decode cL_law 2211 = .ok (.iinc 4 3, 3) := by decide +kernel
theorem dL_law_2214 : decode cL_law 2214 = .ok (.goto (-2191), 3) := by decide +kernel
theorem dL_law_2217 : decode cL_law 2217 = .ok (.iconst 1, 1) := by decide +kernel
theorem dL_law_2218 : decode cL_law 2218 = .ok (.ireturn, 1) := by decide +kernel
end
section
/-- the words of the tables that stay true through calls -/
def uW : List Cond := lw_tbl.filter goodWord
theorem uW_of {w : Cond} (i : Nat) (h : lw_tbl[i]? = some w) (hg : goodWord w = true) : w ∈ uW := List.mem_filter.mpr ⟨List.mem_of_getElem? h, hg⟩
theorem u_se_X4_mixFires : (Jvm.Cond.selects "KitchenSpits" ({ cls := "KitchenSpits", name := "mixFires", desc := "(J)J" } : Jvm.MethodName) ({ cls := "KitchenSpits", name := "mixFires", desc := "(J)J" } : Jvm.MethodName)) ∈ uW := uW_of 0 (by decide +kernel) rfl
theorem u_se_X4_mixSpits : (Jvm.Cond.selects "KitchenSpits" ({ cls := "KitchenSpits", name := "mixSpits", desc := "(J)J" } : Jvm.MethodName) ({ cls := "KitchenSpits", name := "mixSpits", desc := "(J)J" } : Jvm.MethodName)) ∈ uW := uW_of 1 (by decide +kernel) rfl
theorem u_se_X4_mixRoasts : (Jvm.Cond.selects "KitchenSpits" ({ cls := "KitchenSpits", name := "mixRoasts", desc := "(J)J" } : Jvm.MethodName) ({ cls := "KitchenSpits", name := "mixRoasts", desc := "(J)J" } : Jvm.MethodName)) ∈ uW := uW_of 2 (by decide +kernel) rfl
theorem u_se_JT_fillInStackTrace : (Jvm.Cond.selects "java/lang/Throwable" ({ cls := "java/lang/Throwable", name := "fillInStackTrace", desc := "(I)Ljava/lang/Throwable;" } : Jvm.MethodName) ({ cls := "java/lang/Throwable", name := "fillInStackTrace", desc := "(I)Ljava/lang/Throwable;" } : Jvm.MethodName)) ∈ uW := uW_of 3 (by decide +kernel) rfl
theorem u_se_X4_needFire : (Jvm.Cond.selects "KitchenSpits" ({ cls := "KitchenSpits", name := "needFire", desc := "(I)LKitchenSpits$Fire;" } : Jvm.MethodName) ({ cls := "KitchenSpits", name := "needFire", desc := "(I)LKitchenSpits$Fire;" } : Jvm.MethodName)) ∈ uW := uW_of 4 (by decide +kernel) rfl
theorem u_se_X4_needSpit : (Jvm.Cond.selects "KitchenSpits" ({ cls := "KitchenSpits", name := "needSpit", desc := "(I)LKitchenSpits$Spit;" } : Jvm.MethodName) ({ cls := "KitchenSpits", name := "needSpit", desc := "(I)LKitchenSpits$Spit;" } : Jvm.MethodName)) ∈ uW := uW_of 5 (by decide +kernel) rfl
theorem u_se_X4_needRoastOf : (Jvm.Cond.selects "KitchenSpits" ({ cls := "KitchenSpits", name := "needRoastOf", desc := "(LKitchenSpits$Spit;)LKitchenSpits$Roast;" } : Jvm.MethodName) ({ cls := "KitchenSpits", name := "needRoastOf", desc := "(LKitchenSpits$Spit;)LKitchenSpits$Roast;" } : Jvm.MethodName)) ∈ uW := uW_of 6 (by decide +kernel) rfl
theorem u_se_X4_needRoast : (Jvm.Cond.selects "KitchenSpits" ({ cls := "KitchenSpits", name := "needRoast", desc := "(I)LKitchenSpits$Roast;" } : Jvm.MethodName) ({ cls := "KitchenSpits", name := "needRoast", desc := "(I)LKitchenSpits$Roast;" } : Jvm.MethodName)) ∈ uW := uW_of 7 (by decide +kernel) rfl
theorem u_se_X4_aheadUntilDone : (Jvm.Cond.selects "KitchenSpits" ({ cls := "KitchenSpits", name := "aheadUntilDone", desc := "(I)I" } : Jvm.MethodName) ({ cls := "KitchenSpits", name := "aheadUntilDone", desc := "(I)I" } : Jvm.MethodName)) ∈ uW := uW_of 8 (by decide +kernel) rfl
theorem u_se_X4_aheadUntilBurnt : (Jvm.Cond.selects "KitchenSpits" ({ cls := "KitchenSpits", name := "aheadUntilBurnt", desc := "(I)I" } : Jvm.MethodName) ({ cls := "KitchenSpits", name := "aheadUntilBurnt", desc := "(I)I" } : Jvm.MethodName)) ∈ uW := uW_of 9 (by decide +kernel) rfl
theorem u_se_X4_untilDoneTurnedEach : (Jvm.Cond.selects "KitchenSpits" ({ cls := "KitchenSpits", name := "untilDoneTurnedEach", desc := "(II)I" } : Jvm.MethodName) ({ cls := "KitchenSpits", name := "untilDoneTurnedEach", desc := "(II)I" } : Jvm.MethodName)) ∈ uW := uW_of 10 (by decide +kernel) rfl
theorem u_se_X4_untilDoneHungOn : (Jvm.Cond.selects "KitchenSpits" ({ cls := "KitchenSpits", name := "untilDoneHungOn", desc := "(II)I" } : Jvm.MethodName) ({ cls := "KitchenSpits", name := "untilDoneHungOn", desc := "(II)I" } : Jvm.MethodName)) ∈ uW := uW_of 11 (by decide +kernel) rfl
theorem u_se_X5_fail : (Jvm.Cond.selects "KitchenSpitsModel" ({ cls := "KitchenSpitsModel", name := "fail", desc := "(I)I" } : Jvm.MethodName) ({ cls := "KitchenSpitsModel", name := "fail", desc := "(I)I" } : Jvm.MethodName)) ∈ uW := uW_of 12 (by decide +kernel) rfl
theorem u_se_X5_isFire : (Jvm.Cond.selects "KitchenSpitsModel" ({ cls := "KitchenSpitsModel", name := "isFire", desc := "(I)Z" } : Jvm.MethodName) ({ cls := "KitchenSpitsModel", name := "isFire", desc := "(I)Z" } : Jvm.MethodName)) ∈ uW := uW_of 13 (by decide +kernel) rfl
theorem u_se_X5_fi : (Jvm.Cond.selects "KitchenSpitsModel" ({ cls := "KitchenSpitsModel", name := "fi", desc := "(II)I" } : Jvm.MethodName) ({ cls := "KitchenSpitsModel", name := "fi", desc := "(II)I" } : Jvm.MethodName)) ∈ uW := uW_of 14 (by decide +kernel) rfl
theorem u_se_X5_letFire : (Jvm.Cond.selects "KitchenSpitsModel" ({ cls := "KitchenSpitsModel", name := "letFire", desc := "(III)V" } : Jvm.MethodName) ({ cls := "KitchenSpitsModel", name := "letFire", desc := "(III)V" } : Jvm.MethodName)) ∈ uW := uW_of 15 (by decide +kernel) rfl
theorem u_se_X5_letSpit : (Jvm.Cond.selects "KitchenSpitsModel" ({ cls := "KitchenSpitsModel", name := "letSpit", desc := "(III)V" } : Jvm.MethodName) ({ cls := "KitchenSpitsModel", name := "letSpit", desc := "(III)V" } : Jvm.MethodName)) ∈ uW := uW_of 16 (by decide +kernel) rfl
theorem u_se_X5_isSpit : (Jvm.Cond.selects "KitchenSpitsModel" ({ cls := "KitchenSpitsModel", name := "isSpit", desc := "(I)Z" } : Jvm.MethodName) ({ cls := "KitchenSpitsModel", name := "isSpit", desc := "(I)Z" } : Jvm.MethodName)) ∈ uW := uW_of 17 (by decide +kernel) rfl
theorem u_se_X5_sp : (Jvm.Cond.selects "KitchenSpitsModel" ({ cls := "KitchenSpitsModel", name := "sp", desc := "(II)I" } : Jvm.MethodName) ({ cls := "KitchenSpitsModel", name := "sp", desc := "(II)I" } : Jvm.MethodName)) ∈ uW := uW_of 18 (by decide +kernel) rfl
theorem u_se_X5_each : (Jvm.Cond.selects "KitchenSpitsModel" ({ cls := "KitchenSpitsModel", name := "each", desc := "(II)V" } : Jvm.MethodName) ({ cls := "KitchenSpitsModel", name := "each", desc := "(II)V" } : Jvm.MethodName)) ∈ uW := uW_of 19 (by decide +kernel) rfl
theorem u_se_X5_hangNext : (Jvm.Cond.selects "KitchenSpitsModel" ({ cls := "KitchenSpitsModel", name := "hangNext", desc := "(II)V" } : Jvm.MethodName) ({ cls := "KitchenSpitsModel", name := "hangNext", desc := "(II)V" } : Jvm.MethodName)) ∈ uW := uW_of 20 (by decide +kernel) rfl
theorem u_se_X5_let : (Jvm.Cond.selects "KitchenSpitsModel" ({ cls := "KitchenSpitsModel", name := "let", desc := "(III)V" } : Jvm.MethodName) ({ cls := "KitchenSpitsModel", name := "let", desc := "(III)V" } : Jvm.MethodName)) ∈ uW := uW_of 21 (by decide +kernel) rfl
theorem u_se_X5_holds : (Jvm.Cond.selects "KitchenSpitsModel" ({ cls := "KitchenSpitsModel", name := "holds", desc := "(I)Z" } : Jvm.MethodName) ({ cls := "KitchenSpitsModel", name := "holds", desc := "(I)Z" } : Jvm.MethodName)) ∈ uW := uW_of 22 (by decide +kernel) rfl
theorem u_se_X5_turn : (Jvm.Cond.selects "KitchenSpitsModel" ({ cls := "KitchenSpitsModel", name := "turn", desc := "(I)V" } : Jvm.MethodName) ({ cls := "KitchenSpitsModel", name := "turn", desc := "(I)V" } : Jvm.MethodName)) ∈ uW := uW_of 23 (by decide +kernel) rfl
theorem u_se_X5_ro : (Jvm.Cond.selects "KitchenSpitsModel" ({ cls := "KitchenSpitsModel", name := "ro", desc := "(II)I" } : Jvm.MethodName) ({ cls := "KitchenSpitsModel", name := "ro", desc := "(II)I" } : Jvm.MethodName)) ∈ uW := uW_of 24 (by decide +kernel) rfl
theorem u_se_X5_minuteOn : (Jvm.Cond.selects "KitchenSpitsModel" ({ cls := "KitchenSpitsModel", name := "minuteOn", desc := "()I" } : Jvm.MethodName) ({ cls := "KitchenSpitsModel", name := "minuteOn", desc := "()I" } : Jvm.MethodName)) ∈ uW := uW_of 25 (by decide +kernel) rfl
theorem u_se_X5_roasted : (Jvm.Cond.selects "KitchenSpitsModel" ({ cls := "KitchenSpitsModel", name := "roasted", desc := "(II)V" } : Jvm.MethodName) ({ cls := "KitchenSpitsModel", name := "roasted", desc := "(II)V" } : Jvm.MethodName)) ∈ uW := uW_of 26 (by decide +kernel) rfl
theorem u_se_X5_glow : (Jvm.Cond.selects "KitchenSpitsModel" ({ cls := "KitchenSpitsModel", name := "glow", desc := "(I)I" } : Jvm.MethodName) ({ cls := "KitchenSpitsModel", name := "glow", desc := "(I)I" } : Jvm.MethodName)) ∈ uW := uW_of 27 (by decide +kernel) rfl
theorem u_se_X5_tan : (Jvm.Cond.selects "KitchenSpitsModel" ({ cls := "KitchenSpitsModel", name := "tan", desc := "(III)V" } : Jvm.MethodName) ({ cls := "KitchenSpitsModel", name := "tan", desc := "(III)V" } : Jvm.MethodName)) ∈ uW := uW_of 28 (by decide +kernel) rfl
theorem u_se_X5_drip : (Jvm.Cond.selects "KitchenSpitsModel" ({ cls := "KitchenSpitsModel", name := "drip", desc := "(II)V" } : Jvm.MethodName) ({ cls := "KitchenSpitsModel", name := "drip", desc := "(II)V" } : Jvm.MethodName)) ∈ uW := uW_of 29 (by decide +kernel) rfl
theorem u_se_X5_told : (Jvm.Cond.selects "KitchenSpitsModel" ({ cls := "KitchenSpitsModel", name := "told", desc := "(I)I" } : Jvm.MethodName) ({ cls := "KitchenSpitsModel", name := "told", desc := "(I)I" } : Jvm.MethodName)) ∈ uW := uW_of 30 (by decide +kernel) rfl
theorem u_se_X5_fire : (Jvm.Cond.selects "KitchenSpitsModel" ({ cls := "KitchenSpitsModel", name := "fire", desc := "(II)I" } : Jvm.MethodName) ({ cls := "KitchenSpitsModel", name := "fire", desc := "(II)I" } : Jvm.MethodName)) ∈ uW := uW_of 31 (by decide +kernel) rfl
theorem u_se_X5_spit : (Jvm.Cond.selects "KitchenSpitsModel" ({ cls := "KitchenSpitsModel", name := "spit", desc := "(II)I" } : Jvm.MethodName) ({ cls := "KitchenSpitsModel", name := "spit", desc := "(II)I" } : Jvm.MethodName)) ∈ uW := uW_of 32 (by decide +kernel) rfl
theorem u_se_X5_isRoast : (Jvm.Cond.selects "KitchenSpitsModel" ({ cls := "KitchenSpitsModel", name := "isRoast", desc := "(I)Z" } : Jvm.MethodName) ({ cls := "KitchenSpitsModel", name := "isRoast", desc := "(I)Z" } : Jvm.MethodName)) ∈ uW := uW_of 33 (by decide +kernel) rfl
theorem u_se_X5_roast : (Jvm.Cond.selects "KitchenSpitsModel" ({ cls := "KitchenSpitsModel", name := "roast", desc := "(II)I" } : Jvm.MethodName) ({ cls := "KitchenSpitsModel", name := "roast", desc := "(II)I" } : Jvm.MethodName)) ∈ uW := uW_of 34 (by decide +kernel) rfl
theorem u_se_X5_done : (Jvm.Cond.selects "KitchenSpitsModel" ({ cls := "KitchenSpitsModel", name := "done", desc := "(I)Z" } : Jvm.MethodName) ({ cls := "KitchenSpitsModel", name := "done", desc := "(I)Z" } : Jvm.MethodName)) ∈ uW := uW_of 35 (by decide +kernel) rfl
theorem u_se_X5_most : (Jvm.Cond.selects "KitchenSpitsModel" ({ cls := "KitchenSpitsModel", name := "most", desc := "(I)I" } : Jvm.MethodName) ({ cls := "KitchenSpitsModel", name := "most", desc := "(I)I" } : Jvm.MethodName)) ∈ uW := uW_of 36 (by decide +kernel) rfl
theorem u_se_X5_burnt : (Jvm.Cond.selects "KitchenSpitsModel" ({ cls := "KitchenSpitsModel", name := "burnt", desc := "(I)Z" } : Jvm.MethodName) ({ cls := "KitchenSpitsModel", name := "burnt", desc := "(I)Z" } : Jvm.MethodName)) ∈ uW := uW_of 37 (by decide +kernel) rfl
theorem u_se_X5_keep : (Jvm.Cond.selects "KitchenSpitsModel" ({ cls := "KitchenSpitsModel", name := "keep", desc := "()V" } : Jvm.MethodName) ({ cls := "KitchenSpitsModel", name := "keep", desc := "()V" } : Jvm.MethodName)) ∈ uW := uW_of 38 (by decide +kernel) rfl
theorem u_se_X5_until : (Jvm.Cond.selects "KitchenSpitsModel" ({ cls := "KitchenSpitsModel", name := "until", desc := "(IZ)I" } : Jvm.MethodName) ({ cls := "KitchenSpitsModel", name := "until", desc := "(IZ)I" } : Jvm.MethodName)) ∈ uW := uW_of 39 (by decide +kernel) rfl
theorem u_se_X5_bringBack : (Jvm.Cond.selects "KitchenSpitsModel" ({ cls := "KitchenSpitsModel", name := "bringBack", desc := "()V" } : Jvm.MethodName) ({ cls := "KitchenSpitsModel", name := "bringBack", desc := "()V" } : Jvm.MethodName)) ∈ uW := uW_of 40 (by decide +kernel) rfl
theorem u_ini_L : (Jvm.Cond.initialized "KitchenSpitsLaw") ∈ uW := uW_of 41 (by decide +kernel) rfl
theorem u_ini_X4 : (Jvm.Cond.initialized "KitchenSpits") ∈ uW := uW_of 42 (by decide +kernel) rfl
theorem u_ini_X1 : (Jvm.Cond.initialized "KitchenSpits$Kitchen") ∈ uW := uW_of 43 (by decide +kernel) rfl
theorem u_ini_X0 : (Jvm.Cond.initialized "KitchenSpits$Fire") ∈ uW := uW_of 44 (by decide +kernel) rfl
theorem u_ini_X3 : (Jvm.Cond.initialized "KitchenSpits$Spit") ∈ uW := uW_of 45 (by decide +kernel) rfl
theorem u_ini_X2 : (Jvm.Cond.initialized "KitchenSpits$Roast") ∈ uW := uW_of 46 (by decide +kernel) rfl
theorem u_ini_X5 : (Jvm.Cond.initialized "KitchenSpitsModel") ∈ uW := uW_of 47 (by decide +kernel) rfl
theorem u_ini_JT : (Jvm.Cond.initialized "java/lang/Throwable") ∈ uW := uW_of 48 (by decide +kernel) rfl
theorem u_ini_JE : (Jvm.Cond.initialized "java/lang/Exception") ∈ uW := uW_of 49 (by decide +kernel) rfl
theorem u_ini_JR : (Jvm.Cond.initialized "java/lang/RuntimeException") ∈ uW := uW_of 50 (by decide +kernel) rfl
theorem u_ini_JS : (Jvm.Cond.initialized "java/lang/IllegalStateException") ∈ uW := uW_of 51 (by decide +kernel) rfl
theorem u_ini_JI : (Jvm.Cond.initialized "java/lang/IndexOutOfBoundsException") ∈ uW := uW_of 52 (by decide +kernel) rfl
theorem u_ini_JA : (Jvm.Cond.initialized "java/lang/IllegalArgumentException") ∈ uW := uW_of 53 (by decide +kernel) rfl
theorem u_ini_JM : (Jvm.Cond.initialized "java/lang/Math") ∈ uW := uW_of 54 (by decide +kernel) rfl
theorem u_ini_JY : (Jvm.Cond.initialized "java/lang/System") ∈ uW := uW_of 55 (by decide +kernel) rfl
theorem u_cl_L_8 : (Jvm.Cond.classLink "KitchenSpitsLaw" (8 : Nat) "KitchenSpits") ∈ uW := uW_of 56 (by decide +kernel) rfl
theorem u_ins_X4 : (Jvm.Cond.instantiable "KitchenSpits" (2 : Nat)) ∈ uW := uW_of 57 (by decide +kernel) rfl
theorem u_ml_L_115 : (Jvm.Cond.methodLink "KitchenSpitsLaw" (115 : Nat) ({ cls := "KitchenSpits", name := "<init>", desc := "()V" } : Jvm.MethodName)) ∈ uW := uW_of 58 (by decide +kernel) rfl
theorem u_im_X4_init : (Jvm.Cond.instanceMethod ({ cls := "KitchenSpits", name := "<init>", desc := "()V" } : Jvm.MethodName)) ∈ uW := uW_of 59 (by decide +kernel) rfl
theorem u_co_X4_init : (Jvm.Cond.code ({ cls := "KitchenSpits", name := "<init>", desc := "()V" } : Jvm.MethodName) prog_1_method_1_code (1 : Nat) (Option.none : Option Jvm.ClassFile.FieldType)) ∈ uW := uW_of 60 (by decide +kernel) rfl
theorem u_ml_X4_1 : (Jvm.Cond.methodLink "KitchenSpits" (1 : Nat) ({ cls := "java/lang/Object", name := "<init>", desc := "()V" } : Jvm.MethodName)) ∈ uW := uW_of 61 (by decide +kernel) rfl
theorem u_im_JO_init : (Jvm.Cond.instanceMethod ({ cls := "java/lang/Object", name := "<init>", desc := "()V" } : Jvm.MethodName)) ∈ uW := uW_of 62 (by decide +kernel) rfl
theorem u_co_JO_init : (Jvm.Cond.code ({ cls := "java/lang/Object", name := "<init>", desc := "()V" } : Jvm.MethodName) object_method_1_code (1 : Nat) (Option.none : Option Jvm.ClassFile.FieldType)) ∈ uW := uW_of 63 (by decide +kernel) rfl
theorem u_cl_X4_7 : (Jvm.Cond.classLink "KitchenSpits" (7 : Nat) "KitchenSpits$Kitchen") ∈ uW := uW_of 64 (by decide +kernel) rfl
theorem u_ins_X1 : (Jvm.Cond.instantiable "KitchenSpits$Kitchen" (8 : Nat)) ∈ uW := uW_of 65 (by decide +kernel) rfl
theorem u_ml_X4_9 : (Jvm.Cond.methodLink "KitchenSpits" (9 : Nat) ({ cls := "KitchenSpits$Kitchen", name := "<init>", desc := "()V" } : Jvm.MethodName)) ∈ uW := uW_of 66 (by decide +kernel) rfl
theorem u_im_X1_init : (Jvm.Cond.instanceMethod ({ cls := "KitchenSpits$Kitchen", name := "<init>", desc := "()V" } : Jvm.MethodName)) ∈ uW := uW_of 67 (by decide +kernel) rfl
theorem u_co_X1_init : (Jvm.Cond.code ({ cls := "KitchenSpits$Kitchen", name := "<init>", desc := "()V" } : Jvm.MethodName) prog_3_method_1_code (2 : Nat) (Option.none : Option Jvm.ClassFile.FieldType)) ∈ uW := uW_of 68 (by decide +kernel) rfl
theorem u_ml_X1_3 : (Jvm.Cond.methodLink "KitchenSpits$Kitchen" (3 : Nat) ({ cls := "java/lang/Object", name := "<init>", desc := "()V" } : Jvm.MethodName)) ∈ uW := uW_of 69 (by decide +kernel) rfl
theorem u_cl_X1_9 : (Jvm.Cond.classLink "KitchenSpits$Kitchen" (9 : Nat) "KitchenSpits$Fire") ∈ uW := uW_of 70 (by decide +kernel) rfl
theorem u_cl_X1_17 : (Jvm.Cond.classLink "KitchenSpits$Kitchen" (17 : Nat) "KitchenSpits$Spit") ∈ uW := uW_of 72 (by decide +kernel) rfl
theorem u_cl_X1_23 : (Jvm.Cond.classLink "KitchenSpits$Kitchen" (23 : Nat) "KitchenSpits$Roast") ∈ uW := uW_of 74 (by decide +kernel) rfl
theorem u_ins_X0 : (Jvm.Cond.instantiable "KitchenSpits$Fire" (3 : Nat)) ∈ uW := uW_of 76 (by decide +kernel) rfl
theorem u_im_X0_init : (Jvm.Cond.instanceMethod ({ cls := "KitchenSpits$Fire", name := "<init>", desc := "()V" } : Jvm.MethodName)) ∈ uW := uW_of 78 (by decide +kernel) rfl
theorem u_co_X0_init : (Jvm.Cond.code ({ cls := "KitchenSpits$Fire", name := "<init>", desc := "()V" } : Jvm.MethodName) prog_2_method_1_code (1 : Nat) (Option.none : Option Jvm.ClassFile.FieldType)) ∈ uW := uW_of 79 (by decide +kernel) rfl
theorem u_ml_X0_3 : (Jvm.Cond.methodLink "KitchenSpits$Fire" (3 : Nat) ({ cls := "java/lang/Object", name := "<init>", desc := "()V" } : Jvm.MethodName)) ∈ uW := uW_of 80 (by decide +kernel) rfl
theorem u_fl_X0_9 : (Jvm.Cond.fieldLink "KitchenSpits$Fire" (9 : Nat) "KitchenSpits$Fire" "logs" "I") ∈ uW := uW_of 81 (by decide +kernel) rfl
theorem u_fl_X4_39 : (Jvm.Cond.fieldLink "KitchenSpits" (39 : Nat) "KitchenSpits$Fire" "logs" "I") ∈ uW := uW_of 82 (by decide +kernel) rfl
theorem u_fl_X0_15 : (Jvm.Cond.fieldLink "KitchenSpits$Fire" (15 : Nat) "KitchenSpits$Fire" "heat" "I") ∈ uW := uW_of 83 (by decide +kernel) rfl
theorem u_fl_X1_87 : (Jvm.Cond.fieldLink "KitchenSpits$Kitchen" (87 : Nat) "KitchenSpits$Fire" "heat" "I") ∈ uW := uW_of 84 (by decide +kernel) rfl
theorem u_fl_X4_128 : (Jvm.Cond.fieldLink "KitchenSpits" (128 : Nat) "KitchenSpits$Fire" "heat" "I") ∈ uW := uW_of 85 (by decide +kernel) rfl
theorem u_fl_X0_18 : (Jvm.Cond.fieldLink "KitchenSpits$Fire" (18 : Nat) "KitchenSpits$Fire" "flares" "I") ∈ uW := uW_of 86 (by decide +kernel) rfl
theorem u_fl_X1_122 : (Jvm.Cond.fieldLink "KitchenSpits$Kitchen" (122 : Nat) "KitchenSpits$Fire" "flares" "I") ∈ uW := uW_of 87 (by decide +kernel) rfl
theorem u_ins_X3 : (Jvm.Cond.instantiable "KitchenSpits$Spit" (6 : Nat)) ∈ uW := uW_of 95 (by decide +kernel) rfl
theorem u_im_X3_init : (Jvm.Cond.instanceMethod ({ cls := "KitchenSpits$Spit", name := "<init>", desc := "()V" } : Jvm.MethodName)) ∈ uW := uW_of 97 (by decide +kernel) rfl
theorem u_co_X3_init : (Jvm.Cond.code ({ cls := "KitchenSpits$Spit", name := "<init>", desc := "()V" } : Jvm.MethodName) prog_5_method_1_code (1 : Nat) (Option.none : Option Jvm.ClassFile.FieldType)) ∈ uW := uW_of 98 (by decide +kernel) rfl
theorem u_ml_X3_3 : (Jvm.Cond.methodLink "KitchenSpits$Spit" (3 : Nat) ({ cls := "java/lang/Object", name := "<init>", desc := "()V" } : Jvm.MethodName)) ∈ uW := uW_of 99 (by decide +kernel) rfl
theorem u_fl_X3_15 : (Jvm.Cond.fieldLink "KitchenSpits$Spit" (15 : Nat) "KitchenSpits$Spit" "fire" "I") ∈ uW := uW_of 100 (by decide +kernel) rfl
theorem u_fl_X1_58 : (Jvm.Cond.fieldLink "KitchenSpits$Kitchen" (58 : Nat) "KitchenSpits$Spit" "fire" "I") ∈ uW := uW_of 101 (by decide +kernel) rfl
theorem u_fl_X4_134 : (Jvm.Cond.fieldLink "KitchenSpits" (134 : Nat) "KitchenSpits$Spit" "fire" "I") ∈ uW := uW_of 102 (by decide +kernel) rfl
theorem u_fl_X3_18 : (Jvm.Cond.fieldLink "KitchenSpits$Spit" (18 : Nat) "KitchenSpits$Spit" "feet" "I") ∈ uW := uW_of 103 (by decide +kernel) rfl
theorem u_fl_X4_64 : (Jvm.Cond.fieldLink "KitchenSpits" (64 : Nat) "KitchenSpits$Spit" "feet" "I") ∈ uW := uW_of 104 (by decide +kernel) rfl
theorem u_fl_X1_61 : (Jvm.Cond.fieldLink "KitchenSpits$Kitchen" (61 : Nat) "KitchenSpits$Spit" "feet" "I") ∈ uW := uW_of 105 (by decide +kernel) rfl
theorem u_fl_X3_21 : (Jvm.Cond.fieldLink "KitchenSpits$Spit" (21 : Nat) "KitchenSpits$Spit" "each" "I") ∈ uW := uW_of 106 (by decide +kernel) rfl
theorem u_fl_X4_71 : (Jvm.Cond.fieldLink "KitchenSpits" (71 : Nat) "KitchenSpits$Spit" "each" "I") ∈ uW := uW_of 107 (by decide +kernel) rfl
theorem u_fl_X3_24 : (Jvm.Cond.fieldLink "KitchenSpits$Spit" (24 : Nat) "KitchenSpits$Spit" "count" "I") ∈ uW := uW_of 108 (by decide +kernel) rfl
theorem u_fl_X1_80 : (Jvm.Cond.fieldLink "KitchenSpits$Kitchen" (80 : Nat) "KitchenSpits$Spit" "count" "I") ∈ uW := uW_of 109 (by decide +kernel) rfl
theorem u_fl_X3_27 : (Jvm.Cond.fieldLink "KitchenSpits$Spit" (27 : Nat) "KitchenSpits$Spit" "drippings" "I") ∈ uW := uW_of 110 (by decide +kernel) rfl
theorem u_fl_X4_102 : (Jvm.Cond.fieldLink "KitchenSpits" (102 : Nat) "KitchenSpits$Spit" "drippings" "I") ∈ uW := uW_of 111 (by decide +kernel) rfl
theorem u_fl_X3_9 : (Jvm.Cond.fieldLink "KitchenSpits$Spit" (9 : Nat) "KitchenSpits$Spit" "roast" "I") ∈ uW := uW_of 112 (by decide +kernel) rfl
theorem u_fl_X1_68 : (Jvm.Cond.fieldLink "KitchenSpits$Kitchen" (68 : Nat) "KitchenSpits$Spit" "roast" "I") ∈ uW := uW_of 113 (by decide +kernel) rfl
theorem u_fl_X4_110 : (Jvm.Cond.fieldLink "KitchenSpits" (110 : Nat) "KitchenSpits$Spit" "roast" "I") ∈ uW := uW_of 114 (by decide +kernel) rfl
theorem u_ins_X2 : (Jvm.Cond.instantiable "KitchenSpits$Roast" (6 : Nat)) ∈ uW := uW_of 128 (by decide +kernel) rfl
theorem u_im_X2_init : (Jvm.Cond.instanceMethod ({ cls := "KitchenSpits$Roast", name := "<init>", desc := "()V" } : Jvm.MethodName)) ∈ uW := uW_of 130 (by decide +kernel) rfl
theorem u_co_X2_init : (Jvm.Cond.code ({ cls := "KitchenSpits$Roast", name := "<init>", desc := "()V" } : Jvm.MethodName) prog_4_method_1_code (1 : Nat) (Option.none : Option Jvm.ClassFile.FieldType)) ∈ uW := uW_of 131 (by decide +kernel) rfl
theorem u_ml_X2_3 : (Jvm.Cond.methodLink "KitchenSpits$Roast" (3 : Nat) ({ cls := "java/lang/Object", name := "<init>", desc := "()V" } : Jvm.MethodName)) ∈ uW := uW_of 132 (by decide +kernel) rfl
theorem u_fl_X2_9 : (Jvm.Cond.fieldLink "KitchenSpits$Roast" (9 : Nat) "KitchenSpits$Roast" "brown" "[I") ∈ uW := uW_of 133 (by decide +kernel) rfl
theorem u_fl_X1_134 : (Jvm.Cond.fieldLink "KitchenSpits$Kitchen" (134 : Nat) "KitchenSpits$Roast" "brown" "[I") ∈ uW := uW_of 134 (by decide +kernel) rfl
theorem u_fl_X4_151 : (Jvm.Cond.fieldLink "KitchenSpits" (151 : Nat) "KitchenSpits$Roast" "brown" "[I") ∈ uW := uW_of 135 (by decide +kernel) rfl
theorem u_fl_X2_19 : (Jvm.Cond.fieldLink "KitchenSpits$Roast" (19 : Nat) "KitchenSpits$Roast" "pounds" "I") ∈ uW := uW_of 136 (by decide +kernel) rfl
theorem u_fl_X1_71 : (Jvm.Cond.fieldLink "KitchenSpits$Kitchen" (71 : Nat) "KitchenSpits$Roast" "pounds" "I") ∈ uW := uW_of 137 (by decide +kernel) rfl
theorem u_fl_X4_148 : (Jvm.Cond.fieldLink "KitchenSpits" (148 : Nat) "KitchenSpits$Roast" "pounds" "I") ∈ uW := uW_of 138 (by decide +kernel) rfl
theorem u_fl_X2_15 : (Jvm.Cond.fieldLink "KitchenSpits$Roast" (15 : Nat) "KitchenSpits$Roast" "spit" "I") ∈ uW := uW_of 139 (by decide +kernel) rfl
theorem u_fl_X1_77 : (Jvm.Cond.fieldLink "KitchenSpits$Kitchen" (77 : Nat) "KitchenSpits$Roast" "spit" "I") ∈ uW := uW_of 140 (by decide +kernel) rfl
theorem u_fl_X4_113 : (Jvm.Cond.fieldLink "KitchenSpits" (113 : Nat) "KitchenSpits$Roast" "spit" "I") ∈ uW := uW_of 141 (by decide +kernel) rfl
theorem u_fl_X2_22 : (Jvm.Cond.fieldLink "KitchenSpits$Roast" (22 : Nat) "KitchenSpits$Roast" "side" "I") ∈ uW := uW_of 142 (by decide +kernel) rfl
theorem u_fl_X4_99 : (Jvm.Cond.fieldLink "KitchenSpits" (99 : Nat) "KitchenSpits$Roast" "side" "I") ∈ uW := uW_of 143 (by decide +kernel) rfl
theorem u_fl_X2_25 : (Jvm.Cond.fieldLink "KitchenSpits$Roast" (25 : Nat) "KitchenSpits$Roast" "fat" "I") ∈ uW := uW_of 144 (by decide +kernel) rfl
theorem u_fl_X1_74 : (Jvm.Cond.fieldLink "KitchenSpits$Kitchen" (74 : Nat) "KitchenSpits$Roast" "fat" "I") ∈ uW := uW_of 145 (by decide +kernel) rfl
theorem u_fl_X4_160 : (Jvm.Cond.fieldLink "KitchenSpits" (160 : Nat) "KitchenSpits$Roast" "fat" "I") ∈ uW := uW_of 146 (by decide +kernel) rfl
theorem u_fl_X2_28 : (Jvm.Cond.fieldLink "KitchenSpits$Roast" (28 : Nat) "KitchenSpits$Roast" "wet" "I") ∈ uW := uW_of 147 (by decide +kernel) rfl
theorem u_fl_X4_107 : (Jvm.Cond.fieldLink "KitchenSpits" (107 : Nat) "KitchenSpits$Roast" "wet" "I") ∈ uW := uW_of 148 (by decide +kernel) rfl
theorem u_ac_int : (Jvm.Cond.arrayClass Jvm.ClassFile.FieldType.int) ∈ uW := uW_of 162 (by decide +kernel) rfl
theorem u_fl_X1_11 : (Jvm.Cond.fieldLink "KitchenSpits$Kitchen" (11 : Nat) "KitchenSpits$Kitchen" "fires" "[LKitchenSpits$Fire;") ∈ uW := uW_of 163 (by decide +kernel) rfl
theorem u_fl_X4_236 : (Jvm.Cond.fieldLink "KitchenSpits" (236 : Nat) "KitchenSpits$Kitchen" "fires" "[LKitchenSpits$Fire;") ∈ uW := uW_of 164 (by decide +kernel) rfl
theorem u_fl_X1_19 : (Jvm.Cond.fieldLink "KitchenSpits$Kitchen" (19 : Nat) "KitchenSpits$Kitchen" "spits" "[LKitchenSpits$Spit;") ∈ uW := uW_of 165 (by decide +kernel) rfl
theorem u_fl_X4_240 : (Jvm.Cond.fieldLink "KitchenSpits" (240 : Nat) "KitchenSpits$Kitchen" "spits" "[LKitchenSpits$Spit;") ∈ uW := uW_of 166 (by decide +kernel) rfl
theorem u_fl_X1_25 : (Jvm.Cond.fieldLink "KitchenSpits$Kitchen" (25 : Nat) "KitchenSpits$Kitchen" "roasts" "[LKitchenSpits$Roast;") ∈ uW := uW_of 167 (by decide +kernel) rfl
theorem u_fl_X4_244 : (Jvm.Cond.fieldLink "KitchenSpits" (244 : Nat) "KitchenSpits$Kitchen" "roasts" "[LKitchenSpits$Roast;") ∈ uW := uW_of 168 (by decide +kernel) rfl
theorem u_fl_X1_46 : (Jvm.Cond.fieldLink "KitchenSpits$Kitchen" (46 : Nat) "KitchenSpits$Kitchen" "fireCount" "I") ∈ uW := uW_of 169 (by decide +kernel) rfl
theorem u_fl_X4_125 : (Jvm.Cond.fieldLink "KitchenSpits" (125 : Nat) "KitchenSpits$Kitchen" "fireCount" "I") ∈ uW := uW_of 170 (by decide +kernel) rfl
theorem u_fl_X1_49 : (Jvm.Cond.fieldLink "KitchenSpits$Kitchen" (49 : Nat) "KitchenSpits$Kitchen" "spitCount" "I") ∈ uW := uW_of 171 (by decide +kernel) rfl
theorem u_fl_X4_131 : (Jvm.Cond.fieldLink "KitchenSpits" (131 : Nat) "KitchenSpits$Kitchen" "spitCount" "I") ∈ uW := uW_of 172 (by decide +kernel) rfl
theorem u_fl_X1_52 : (Jvm.Cond.fieldLink "KitchenSpits$Kitchen" (52 : Nat) "KitchenSpits$Kitchen" "roastCount" "I") ∈ uW := uW_of 173 (by decide +kernel) rfl
theorem u_fl_X4_141 : (Jvm.Cond.fieldLink "KitchenSpits" (141 : Nat) "KitchenSpits$Kitchen" "roastCount" "I") ∈ uW := uW_of 174 (by decide +kernel) rfl
theorem u_fl_X1_55 : (Jvm.Cond.fieldLink "KitchenSpits$Kitchen" (55 : Nat) "KitchenSpits$Kitchen" "minute" "I") ∈ uW := uW_of 175 (by decide +kernel) rfl
theorem u_fl_X4_122 : (Jvm.Cond.fieldLink "KitchenSpits" (122 : Nat) "KitchenSpits$Kitchen" "minute" "I") ∈ uW := uW_of 176 (by decide +kernel) rfl
theorem u_fl_X1_29 : (Jvm.Cond.fieldLink "KitchenSpits$Kitchen" (29 : Nat) "KitchenSpits$Kitchen" "feast" "I") ∈ uW := uW_of 177 (by decide +kernel) rfl
theorem u_fl_X4_79 : (Jvm.Cond.fieldLink "KitchenSpits" (79 : Nat) "KitchenSpits$Kitchen" "feast" "I") ∈ uW := uW_of 178 (by decide +kernel) rfl
theorem u_fl_X4_10 : (Jvm.Cond.fieldLink "KitchenSpits" (10 : Nat) "KitchenSpits" "now" "LKitchenSpits$Kitchen;") ∈ uW := uW_of 196 (by decide +kernel) rfl
theorem u_fl_X4_16 : (Jvm.Cond.fieldLink "KitchenSpits" (16 : Nat) "KitchenSpits" "ahead" "LKitchenSpits$Kitchen;") ∈ uW := uW_of 197 (by decide +kernel) rfl
theorem u_ml_L_163 : (Jvm.Cond.methodLink "KitchenSpitsLaw" (163 : Nat) ({ cls := "KitchenSpits", name := "minute", desc := "()I" } : Jvm.MethodName)) ∈ uW := uW_of 203 (by decide +kernel) rfl
theorem u_im_X4_minute : (Jvm.Cond.instanceMethod ({ cls := "KitchenSpits", name := "minute", desc := "()I" } : Jvm.MethodName)) ∈ uW := uW_of 204 (by decide +kernel) rfl
theorem u_se_X4_minute : (Jvm.Cond.selects "KitchenSpits" ({ cls := "KitchenSpits", name := "minute", desc := "()I" } : Jvm.MethodName) ({ cls := "KitchenSpits", name := "minute", desc := "()I" } : Jvm.MethodName)) ∈ uW := uW_of 205 (by decide +kernel) rfl
theorem u_co_X4_minute : (Jvm.Cond.code ({ cls := "KitchenSpits", name := "minute", desc := "()I" } : Jvm.MethodName) prog_1_method_14_code (1 : Nat) (Option.some Jvm.ClassFile.FieldType.int)) ∈ uW := uW_of 206 (by decide +kernel) rfl
theorem u_ml_L_167 : (Jvm.Cond.methodLink "KitchenSpitsLaw" (167 : Nat) ({ cls := "KitchenSpits", name := "feast", desc := "()I" } : Jvm.MethodName)) ∈ uW := uW_of 207 (by decide +kernel) rfl
theorem u_im_X4_feast : (Jvm.Cond.instanceMethod ({ cls := "KitchenSpits", name := "feast", desc := "()I" } : Jvm.MethodName)) ∈ uW := uW_of 208 (by decide +kernel) rfl
theorem u_se_X4_feast : (Jvm.Cond.selects "KitchenSpits" ({ cls := "KitchenSpits", name := "feast", desc := "()I" } : Jvm.MethodName) ({ cls := "KitchenSpits", name := "feast", desc := "()I" } : Jvm.MethodName)) ∈ uW := uW_of 209 (by decide +kernel) rfl
theorem u_co_X4_feast : (Jvm.Cond.code ({ cls := "KitchenSpits", name := "feast", desc := "()I" } : Jvm.MethodName) prog_1_method_15_code (1 : Nat) (Option.some Jvm.ClassFile.FieldType.int)) ∈ uW := uW_of 210 (by decide +kernel) rfl
theorem u_ml_L_171 : (Jvm.Cond.methodLink "KitchenSpitsLaw" (171 : Nat) ({ cls := "KitchenSpits", name := "fires", desc := "()I" } : Jvm.MethodName)) ∈ uW := uW_of 211 (by decide +kernel) rfl
theorem u_im_X4_fires : (Jvm.Cond.instanceMethod ({ cls := "KitchenSpits", name := "fires", desc := "()I" } : Jvm.MethodName)) ∈ uW := uW_of 212 (by decide +kernel) rfl
theorem u_se_X4_fires : (Jvm.Cond.selects "KitchenSpits" ({ cls := "KitchenSpits", name := "fires", desc := "()I" } : Jvm.MethodName) ({ cls := "KitchenSpits", name := "fires", desc := "()I" } : Jvm.MethodName)) ∈ uW := uW_of 213 (by decide +kernel) rfl
theorem u_co_X4_fires : (Jvm.Cond.code ({ cls := "KitchenSpits", name := "fires", desc := "()I" } : Jvm.MethodName) prog_1_method_16_code (1 : Nat) (Option.some Jvm.ClassFile.FieldType.int)) ∈ uW := uW_of 214 (by decide +kernel) rfl
theorem u_ml_L_181 : (Jvm.Cond.methodLink "KitchenSpitsLaw" (181 : Nat) ({ cls := "KitchenSpits", name := "spits", desc := "()I" } : Jvm.MethodName)) ∈ uW := uW_of 215 (by decide +kernel) rfl
theorem u_im_X4_spits : (Jvm.Cond.instanceMethod ({ cls := "KitchenSpits", name := "spits", desc := "()I" } : Jvm.MethodName)) ∈ uW := uW_of 216 (by decide +kernel) rfl
theorem u_se_X4_spits : (Jvm.Cond.selects "KitchenSpits" ({ cls := "KitchenSpits", name := "spits", desc := "()I" } : Jvm.MethodName) ({ cls := "KitchenSpits", name := "spits", desc := "()I" } : Jvm.MethodName)) ∈ uW := uW_of 217 (by decide +kernel) rfl
theorem u_co_X4_spits : (Jvm.Cond.code ({ cls := "KitchenSpits", name := "spits", desc := "()I" } : Jvm.MethodName) prog_1_method_19_code (1 : Nat) (Option.some Jvm.ClassFile.FieldType.int)) ∈ uW := uW_of 218 (by decide +kernel) rfl
theorem u_ml_L_203 : (Jvm.Cond.methodLink "KitchenSpitsLaw" (203 : Nat) ({ cls := "KitchenSpits", name := "roasts", desc := "()I" } : Jvm.MethodName)) ∈ uW := uW_of 219 (by decide +kernel) rfl
theorem u_im_X4_roasts : (Jvm.Cond.instanceMethod ({ cls := "KitchenSpits", name := "roasts", desc := "()I" } : Jvm.MethodName)) ∈ uW := uW_of 220 (by decide +kernel) rfl
theorem u_se_X4_roasts : (Jvm.Cond.selects "KitchenSpits" ({ cls := "KitchenSpits", name := "roasts", desc := "()I" } : Jvm.MethodName) ({ cls := "KitchenSpits", name := "roasts", desc := "()I" } : Jvm.MethodName)) ∈ uW := uW_of 221 (by decide +kernel) rfl
theorem u_co_X4_roasts : (Jvm.Cond.code ({ cls := "KitchenSpits", name := "roasts", desc := "()I" } : Jvm.MethodName) prog_1_method_26_code (1 : Nat) (Option.some Jvm.ClassFile.FieldType.int)) ∈ uW := uW_of 222 (by decide +kernel) rfl
theorem u_ml_L_237 : (Jvm.Cond.methodLink "KitchenSpitsLaw" (237 : Nat) ({ cls := "KitchenSpits", name := "doneAtFeast", desc := "()I" } : Jvm.MethodName)) ∈ uW := uW_of 223 (by decide +kernel) rfl
theorem u_im_X4_doneAtFeast : (Jvm.Cond.instanceMethod ({ cls := "KitchenSpits", name := "doneAtFeast", desc := "()I" } : Jvm.MethodName)) ∈ uW := uW_of 224 (by decide +kernel) rfl
theorem u_se_X4_doneAtFeast : (Jvm.Cond.selects "KitchenSpits" ({ cls := "KitchenSpits", name := "doneAtFeast", desc := "()I" } : Jvm.MethodName) ({ cls := "KitchenSpits", name := "doneAtFeast", desc := "()I" } : Jvm.MethodName)) ∈ uW := uW_of 225 (by decide +kernel) rfl
theorem u_co_X4_doneAtFeast : (Jvm.Cond.code ({ cls := "KitchenSpits", name := "doneAtFeast", desc := "()I" } : Jvm.MethodName) prog_1_method_37_code (2 : Nat) (Option.some Jvm.ClassFile.FieldType.int)) ∈ uW := uW_of 226 (by decide +kernel) rfl
theorem u_ml_X4_170 : (Jvm.Cond.methodLink "KitchenSpits" (170 : Nat) ({ cls := "KitchenSpits$Kitchen", name := "copyFrom", desc := "(LKitchenSpits$Kitchen;)V" } : Jvm.MethodName)) ∈ uW := uW_of 227 (by decide +kernel) rfl
theorem u_im_X1_copyFrom : (Jvm.Cond.instanceMethod ({ cls := "KitchenSpits$Kitchen", name := "copyFrom", desc := "(LKitchenSpits$Kitchen;)V" } : Jvm.MethodName)) ∈ uW := uW_of 228 (by decide +kernel) rfl
theorem u_se_X1_copyFrom : (Jvm.Cond.selects "KitchenSpits$Kitchen" ({ cls := "KitchenSpits$Kitchen", name := "copyFrom", desc := "(LKitchenSpits$Kitchen;)V" } : Jvm.MethodName) ({ cls := "KitchenSpits$Kitchen", name := "copyFrom", desc := "(LKitchenSpits$Kitchen;)V" } : Jvm.MethodName)) ∈ uW := uW_of 229 (by decide +kernel) rfl
theorem u_co_X1_copyFrom : (Jvm.Cond.code ({ cls := "KitchenSpits$Kitchen", name := "copyFrom", desc := "(LKitchenSpits$Kitchen;)V" } : Jvm.MethodName) prog_3_method_2_code (3 : Nat) (Option.none : Option Jvm.ClassFile.FieldType)) ∈ uW := uW_of 230 (by decide +kernel) rfl
theorem u_ml_X1_36 : (Jvm.Cond.methodLink "KitchenSpits$Kitchen" (36 : Nat) ({ cls := "KitchenSpits$Fire", name := "copyFrom", desc := "(LKitchenSpits$Fire;)V" } : Jvm.MethodName)) ∈ uW := uW_of 231 (by decide +kernel) rfl
theorem u_im_X0_copyFrom : (Jvm.Cond.instanceMethod ({ cls := "KitchenSpits$Fire", name := "copyFrom", desc := "(LKitchenSpits$Fire;)V" } : Jvm.MethodName)) ∈ uW := uW_of 232 (by decide +kernel) rfl
theorem u_se_X0_copyFrom : (Jvm.Cond.selects "KitchenSpits$Fire" ({ cls := "KitchenSpits$Fire", name := "copyFrom", desc := "(LKitchenSpits$Fire;)V" } : Jvm.MethodName) ({ cls := "KitchenSpits$Fire", name := "copyFrom", desc := "(LKitchenSpits$Fire;)V" } : Jvm.MethodName)) ∈ uW := uW_of 233 (by decide +kernel) rfl
theorem u_co_X0_copyFrom : (Jvm.Cond.code ({ cls := "KitchenSpits$Fire", name := "copyFrom", desc := "(LKitchenSpits$Fire;)V" } : Jvm.MethodName) prog_2_method_2_code (2 : Nat) (Option.none : Option Jvm.ClassFile.FieldType)) ∈ uW := uW_of 234 (by decide +kernel) rfl
theorem u_ml_X1_40 : (Jvm.Cond.methodLink "KitchenSpits$Kitchen" (40 : Nat) ({ cls := "KitchenSpits$Spit", name := "copyFrom", desc := "(LKitchenSpits$Spit;)V" } : Jvm.MethodName)) ∈ uW := uW_of 235 (by decide +kernel) rfl
theorem u_im_X3_copyFrom : (Jvm.Cond.instanceMethod ({ cls := "KitchenSpits$Spit", name := "copyFrom", desc := "(LKitchenSpits$Spit;)V" } : Jvm.MethodName)) ∈ uW := uW_of 236 (by decide +kernel) rfl
theorem u_se_X3_copyFrom : (Jvm.Cond.selects "KitchenSpits$Spit" ({ cls := "KitchenSpits$Spit", name := "copyFrom", desc := "(LKitchenSpits$Spit;)V" } : Jvm.MethodName) ({ cls := "KitchenSpits$Spit", name := "copyFrom", desc := "(LKitchenSpits$Spit;)V" } : Jvm.MethodName)) ∈ uW := uW_of 237 (by decide +kernel) rfl
theorem u_co_X3_copyFrom : (Jvm.Cond.code ({ cls := "KitchenSpits$Spit", name := "copyFrom", desc := "(LKitchenSpits$Spit;)V" } : Jvm.MethodName) prog_5_method_2_code (2 : Nat) (Option.none : Option Jvm.ClassFile.FieldType)) ∈ uW := uW_of 238 (by decide +kernel) rfl
theorem u_ml_X1_43 : (Jvm.Cond.methodLink "KitchenSpits$Kitchen" (43 : Nat) ({ cls := "KitchenSpits$Roast", name := "copyFrom", desc := "(LKitchenSpits$Roast;)V" } : Jvm.MethodName)) ∈ uW := uW_of 239 (by decide +kernel) rfl
theorem u_im_X2_copyFrom : (Jvm.Cond.instanceMethod ({ cls := "KitchenSpits$Roast", name := "copyFrom", desc := "(LKitchenSpits$Roast;)V" } : Jvm.MethodName)) ∈ uW := uW_of 240 (by decide +kernel) rfl
theorem u_se_X2_copyFrom : (Jvm.Cond.selects "KitchenSpits$Roast" ({ cls := "KitchenSpits$Roast", name := "copyFrom", desc := "(LKitchenSpits$Roast;)V" } : Jvm.MethodName) ({ cls := "KitchenSpits$Roast", name := "copyFrom", desc := "(LKitchenSpits$Roast;)V" } : Jvm.MethodName)) ∈ uW := uW_of 241 (by decide +kernel) rfl
theorem u_co_X2_copyFrom : (Jvm.Cond.code ({ cls := "KitchenSpits$Roast", name := "copyFrom", desc := "(LKitchenSpits$Roast;)V" } : Jvm.MethodName) prog_4_method_2_code (3 : Nat) (Option.none : Option Jvm.ClassFile.FieldType)) ∈ uW := uW_of 242 (by decide +kernel) rfl
theorem u_ml_X4_118 : (Jvm.Cond.methodLink "KitchenSpits" (118 : Nat) ({ cls := "KitchenSpits$Kitchen", name := "goMinutes", desc := "(I)I" } : Jvm.MethodName)) ∈ uW := uW_of 243 (by decide +kernel) rfl
theorem u_im_X1_goMinutes : (Jvm.Cond.instanceMethod ({ cls := "KitchenSpits$Kitchen", name := "goMinutes", desc := "(I)I" } : Jvm.MethodName)) ∈ uW := uW_of 244 (by decide +kernel) rfl
theorem u_se_X1_goMinutes : (Jvm.Cond.selects "KitchenSpits$Kitchen" ({ cls := "KitchenSpits$Kitchen", name := "goMinutes", desc := "(I)I" } : Jvm.MethodName) ({ cls := "KitchenSpits$Kitchen", name := "goMinutes", desc := "(I)I" } : Jvm.MethodName)) ∈ uW := uW_of 245 (by decide +kernel) rfl
theorem u_co_X1_goMinutes : (Jvm.Cond.code ({ cls := "KitchenSpits$Kitchen", name := "goMinutes", desc := "(I)I" } : Jvm.MethodName) prog_3_method_10_code (4 : Nat) (Option.some Jvm.ClassFile.FieldType.int)) ∈ uW := uW_of 246 (by decide +kernel) rfl
theorem u_ml_X1_90 : (Jvm.Cond.methodLink "KitchenSpits$Kitchen" (90 : Nat) ({ cls := "KitchenSpits$Kitchen", name := "goMinute", desc := "()I" } : Jvm.MethodName)) ∈ uW := uW_of 247 (by decide +kernel) rfl
theorem u_im_X1_goMinute : (Jvm.Cond.instanceMethod ({ cls := "KitchenSpits$Kitchen", name := "goMinute", desc := "()I" } : Jvm.MethodName)) ∈ uW := uW_of 248 (by decide +kernel) rfl
theorem u_se_X1_goMinute : (Jvm.Cond.selects "KitchenSpits$Kitchen" ({ cls := "KitchenSpits$Kitchen", name := "goMinute", desc := "()I" } : Jvm.MethodName) ({ cls := "KitchenSpits$Kitchen", name := "goMinute", desc := "()I" } : Jvm.MethodName)) ∈ uW := uW_of 249 (by decide +kernel) rfl
theorem u_co_X1_goMinute : (Jvm.Cond.code ({ cls := "KitchenSpits$Kitchen", name := "goMinute", desc := "()I" } : Jvm.MethodName) prog_3_method_11_code (6 : Nat) (Option.some Jvm.ClassFile.FieldType.int)) ∈ uW := uW_of 250 (by decide +kernel) rfl
theorem u_ml_X1_94 : (Jvm.Cond.methodLink "KitchenSpits$Kitchen" (94 : Nat) ({ cls := "KitchenSpits$Kitchen", name := "roastForAMinute", desc := "(LKitchenSpits$Spit;)Z" } : Jvm.MethodName)) ∈ uW := uW_of 251 (by decide +kernel) rfl
theorem u_im_X1_roastForAMinute : (Jvm.Cond.instanceMethod ({ cls := "KitchenSpits$Kitchen", name := "roastForAMinute", desc := "(LKitchenSpits$Spit;)Z" } : Jvm.MethodName)) ∈ uW := uW_of 252 (by decide +kernel) rfl
theorem u_se_X1_roastForAMinute : (Jvm.Cond.selects "KitchenSpits$Kitchen" ({ cls := "KitchenSpits$Kitchen", name := "roastForAMinute", desc := "(LKitchenSpits$Spit;)Z" } : Jvm.MethodName) ({ cls := "KitchenSpits$Kitchen", name := "roastForAMinute", desc := "(LKitchenSpits$Spit;)Z" } : Jvm.MethodName)) ∈ uW := uW_of 253 (by decide +kernel) rfl
theorem u_co_X1_roastForAMinute : (Jvm.Cond.code ({ cls := "KitchenSpits$Kitchen", name := "roastForAMinute", desc := "(LKitchenSpits$Spit;)Z" } : Jvm.MethodName) prog_3_method_12_code (6 : Nat) (Option.some Jvm.ClassFile.FieldType.boolean)) ∈ uW := uW_of 254 (by decide +kernel) rfl
theorem u_ml_X1_102 : (Jvm.Cond.methodLink "KitchenSpits$Kitchen" (102 : Nat) ({ cls := "KitchenSpits$Kitchen", name := "roastAt", desc := "(I)LKitchenSpits$Roast;" } : Jvm.MethodName)) ∈ uW := uW_of 255 (by decide +kernel) rfl
theorem u_im_X1_roastAt : (Jvm.Cond.instanceMethod ({ cls := "KitchenSpits$Kitchen", name := "roastAt", desc := "(I)LKitchenSpits$Roast;" } : Jvm.MethodName)) ∈ uW := uW_of 256 (by decide +kernel) rfl
theorem u_se_X1_roastAt : (Jvm.Cond.selects "KitchenSpits$Kitchen" ({ cls := "KitchenSpits$Kitchen", name := "roastAt", desc := "(I)LKitchenSpits$Roast;" } : Jvm.MethodName) ({ cls := "KitchenSpits$Kitchen", name := "roastAt", desc := "(I)LKitchenSpits$Roast;" } : Jvm.MethodName)) ∈ uW := uW_of 257 (by decide +kernel) rfl
theorem u_co_X1_roastAt : (Jvm.Cond.code ({ cls := "KitchenSpits$Kitchen", name := "roastAt", desc := "(I)LKitchenSpits$Roast;" } : Jvm.MethodName) prog_3_method_5_code (2 : Nat) (Option.some (Jvm.ClassFile.FieldType.object "KitchenSpits$Roast"))) ∈ uW := uW_of 258 (by decide +kernel) rfl
theorem u_ml_X1_83 : (Jvm.Cond.methodLink "KitchenSpits$Kitchen" (83 : Nat) ({ cls := "KitchenSpits$Kitchen", name := "fireAt", desc := "(I)LKitchenSpits$Fire;" } : Jvm.MethodName)) ∈ uW := uW_of 259 (by decide +kernel) rfl
theorem u_im_X1_fireAt : (Jvm.Cond.instanceMethod ({ cls := "KitchenSpits$Kitchen", name := "fireAt", desc := "(I)LKitchenSpits$Fire;" } : Jvm.MethodName)) ∈ uW := uW_of 260 (by decide +kernel) rfl
theorem u_se_X1_fireAt : (Jvm.Cond.selects "KitchenSpits$Kitchen" ({ cls := "KitchenSpits$Kitchen", name := "fireAt", desc := "(I)LKitchenSpits$Fire;" } : Jvm.MethodName) ({ cls := "KitchenSpits$Kitchen", name := "fireAt", desc := "(I)LKitchenSpits$Fire;" } : Jvm.MethodName)) ∈ uW := uW_of 261 (by decide +kernel) rfl
theorem u_co_X1_fireAt : (Jvm.Cond.code ({ cls := "KitchenSpits$Kitchen", name := "fireAt", desc := "(I)LKitchenSpits$Fire;" } : Jvm.MethodName) prog_3_method_3_code (2 : Nat) (Option.some (Jvm.ClassFile.FieldType.object "KitchenSpits$Fire"))) ∈ uW := uW_of 262 (by decide +kernel) rfl
theorem u_ml_X1_106 : (Jvm.Cond.methodLink "KitchenSpits$Kitchen" (106 : Nat) ({ cls := "KitchenSpits$Kitchen", name := "glowOf", desc := "(LKitchenSpits$Spit;)I" } : Jvm.MethodName)) ∈ uW := uW_of 263 (by decide +kernel) rfl
theorem u_im_X1_glowOf : (Jvm.Cond.instanceMethod ({ cls := "KitchenSpits$Kitchen", name := "glowOf", desc := "(LKitchenSpits$Spit;)I" } : Jvm.MethodName)) ∈ uW := uW_of 264 (by decide +kernel) rfl
theorem u_se_X1_glowOf : (Jvm.Cond.selects "KitchenSpits$Kitchen" ({ cls := "KitchenSpits$Kitchen", name := "glowOf", desc := "(LKitchenSpits$Spit;)I" } : Jvm.MethodName) ({ cls := "KitchenSpits$Kitchen", name := "glowOf", desc := "(LKitchenSpits$Spit;)I" } : Jvm.MethodName)) ∈ uW := uW_of 265 (by decide +kernel) rfl
theorem u_co_X1_glowOf : (Jvm.Cond.code ({ cls := "KitchenSpits$Kitchen", name := "glowOf", desc := "(LKitchenSpits$Spit;)I" } : Jvm.MethodName) prog_3_method_9_code (3 : Nat) (Option.some Jvm.ClassFile.FieldType.int)) ∈ uW := uW_of 266 (by decide +kernel) rfl
theorem u_ml_X1_110 : (Jvm.Cond.methodLink "KitchenSpits$Kitchen" (110 : Nat) ({ cls := "KitchenSpits$Roast", name := "getGlow", desc := "(I)I" } : Jvm.MethodName)) ∈ uW := uW_of 267 (by decide +kernel) rfl
theorem u_im_X2_getGlow : (Jvm.Cond.instanceMethod ({ cls := "KitchenSpits$Roast", name := "getGlow", desc := "(I)I" } : Jvm.MethodName)) ∈ uW := uW_of 268 (by decide +kernel) rfl
theorem u_se_X2_getGlow : (Jvm.Cond.selects "KitchenSpits$Roast" ({ cls := "KitchenSpits$Roast", name := "getGlow", desc := "(I)I" } : Jvm.MethodName) ({ cls := "KitchenSpits$Roast", name := "getGlow", desc := "(I)I" } : Jvm.MethodName)) ∈ uW := uW_of 269 (by decide +kernel) rfl
theorem u_co_X2_getGlow : (Jvm.Cond.code ({ cls := "KitchenSpits$Roast", name := "getGlow", desc := "(I)I" } : Jvm.MethodName) prog_4_method_3_code (3 : Nat) (Option.some Jvm.ClassFile.FieldType.int)) ∈ uW := uW_of 270 (by decide +kernel) rfl
theorem u_ml_X2_31 : (Jvm.Cond.methodLink "KitchenSpits$Roast" (31 : Nat) ({ cls := "java/lang/Math", name := "max", desc := "(II)I" } : Jvm.MethodName)) ∈ uW := uW_of 271 (by decide +kernel) rfl
theorem u_st_JM_max : (Jvm.Cond.static ({ cls := "java/lang/Math", name := "max", desc := "(II)I" } : Jvm.MethodName)) ∈ uW := uW_of 272 (by decide +kernel) rfl
theorem u_co_JM_max : (Jvm.Cond.code ({ cls := "java/lang/Math", name := "max", desc := "(II)I" } : Jvm.MethodName) prog_12_method_65_code (2 : Nat) (Option.some Jvm.ClassFile.FieldType.int)) ∈ uW := uW_of 273 (by decide +kernel) rfl
theorem u_ml_X2_37 : (Jvm.Cond.methodLink "KitchenSpits$Roast" (37 : Nat) ({ cls := "KitchenSpits$Roast", name := "getBrowner", desc := "(II)V" } : Jvm.MethodName)) ∈ uW := uW_of 274 (by decide +kernel) rfl
theorem u_im_X2_getBrowner : (Jvm.Cond.instanceMethod ({ cls := "KitchenSpits$Roast", name := "getBrowner", desc := "(II)V" } : Jvm.MethodName)) ∈ uW := uW_of 275 (by decide +kernel) rfl
theorem u_se_X2_getBrowner : (Jvm.Cond.selects "KitchenSpits$Roast" ({ cls := "KitchenSpits$Roast", name := "getBrowner", desc := "(II)V" } : Jvm.MethodName) ({ cls := "KitchenSpits$Roast", name := "getBrowner", desc := "(II)V" } : Jvm.MethodName)) ∈ uW := uW_of 276 (by decide +kernel) rfl
theorem u_co_X2_getBrowner : (Jvm.Cond.code ({ cls := "KitchenSpits$Roast", name := "getBrowner", desc := "(II)V" } : Jvm.MethodName) prog_4_method_4_code (4 : Nat) (Option.none : Option Jvm.ClassFile.FieldType)) ∈ uW := uW_of 277 (by decide +kernel) rfl
theorem u_ml_X2_41 : (Jvm.Cond.methodLink "KitchenSpits$Roast" (41 : Nat) ({ cls := "KitchenSpits$Roast", name := "nextSide", desc := "(I)I" } : Jvm.MethodName)) ∈ uW := uW_of 278 (by decide +kernel) rfl
theorem u_st_X2_nextSide : (Jvm.Cond.static ({ cls := "KitchenSpits$Roast", name := "nextSide", desc := "(I)I" } : Jvm.MethodName)) ∈ uW := uW_of 279 (by decide +kernel) rfl
theorem u_co_X2_nextSide : (Jvm.Cond.code ({ cls := "KitchenSpits$Roast", name := "nextSide", desc := "(I)I" } : Jvm.MethodName) prog_4_method_9_code (1 : Nat) (Option.some Jvm.ClassFile.FieldType.int)) ∈ uW := uW_of 280 (by decide +kernel) rfl
theorem u_ml_X2_45 : (Jvm.Cond.methodLink "KitchenSpits$Roast" (45 : Nat) ({ cls := "KitchenSpits$Roast", name := "sideBefore", desc := "(I)I" } : Jvm.MethodName)) ∈ uW := uW_of 281 (by decide +kernel) rfl
theorem u_st_X2_sideBefore : (Jvm.Cond.static ({ cls := "KitchenSpits$Roast", name := "sideBefore", desc := "(I)I" } : Jvm.MethodName)) ∈ uW := uW_of 282 (by decide +kernel) rfl
theorem u_co_X2_sideBefore : (Jvm.Cond.code ({ cls := "KitchenSpits$Roast", name := "sideBefore", desc := "(I)I" } : Jvm.MethodName) prog_4_method_10_code (1 : Nat) (Option.some Jvm.ClassFile.FieldType.int)) ∈ uW := uW_of 283 (by decide +kernel) rfl
theorem u_ml_X1_114 : (Jvm.Cond.methodLink "KitchenSpits$Kitchen" (114 : Nat) ({ cls := "KitchenSpits$Roast", name := "drips", desc := "(I)Z" } : Jvm.MethodName)) ∈ uW := uW_of 284 (by decide +kernel) rfl
theorem u_im_X2_drips : (Jvm.Cond.instanceMethod ({ cls := "KitchenSpits$Roast", name := "drips", desc := "(I)Z" } : Jvm.MethodName)) ∈ uW := uW_of 285 (by decide +kernel) rfl
theorem u_se_X2_drips : (Jvm.Cond.selects "KitchenSpits$Roast" ({ cls := "KitchenSpits$Roast", name := "drips", desc := "(I)Z" } : Jvm.MethodName) ({ cls := "KitchenSpits$Roast", name := "drips", desc := "(I)Z" } : Jvm.MethodName)) ∈ uW := uW_of 286 (by decide +kernel) rfl
theorem u_co_X2_drips : (Jvm.Cond.code ({ cls := "KitchenSpits$Roast", name := "drips", desc := "(I)Z" } : Jvm.MethodName) prog_4_method_5_code (2 : Nat) (Option.some Jvm.ClassFile.FieldType.boolean)) ∈ uW := uW_of 287 (by decide +kernel) rfl
theorem u_ml_X1_118 : (Jvm.Cond.methodLink "KitchenSpits$Kitchen" (118 : Nat) ({ cls := "KitchenSpits$Spit", name := "takesDripping", desc := "()Z" } : Jvm.MethodName)) ∈ uW := uW_of 288 (by decide +kernel) rfl
theorem u_im_X3_takesDripping : (Jvm.Cond.instanceMethod ({ cls := "KitchenSpits$Spit", name := "takesDripping", desc := "()Z" } : Jvm.MethodName)) ∈ uW := uW_of 289 (by decide +kernel) rfl
theorem u_se_X3_takesDripping : (Jvm.Cond.selects "KitchenSpits$Spit" ({ cls := "KitchenSpits$Spit", name := "takesDripping", desc := "()Z" } : Jvm.MethodName) ({ cls := "KitchenSpits$Spit", name := "takesDripping", desc := "()Z" } : Jvm.MethodName)) ∈ uW := uW_of 290 (by decide +kernel) rfl
theorem u_co_X3_takesDripping : (Jvm.Cond.code ({ cls := "KitchenSpits$Spit", name := "takesDripping", desc := "()Z" } : Jvm.MethodName) prog_5_method_5_code (1 : Nat) (Option.some Jvm.ClassFile.FieldType.boolean)) ∈ uW := uW_of 291 (by decide +kernel) rfl
theorem u_ml_X1_125 : (Jvm.Cond.methodLink "KitchenSpits$Kitchen" (125 : Nat) ({ cls := "KitchenSpits$Spit", name := "countsToTurn", desc := "()Z" } : Jvm.MethodName)) ∈ uW := uW_of 292 (by decide +kernel) rfl
theorem u_im_X3_countsToTurn : (Jvm.Cond.instanceMethod ({ cls := "KitchenSpits$Spit", name := "countsToTurn", desc := "()Z" } : Jvm.MethodName)) ∈ uW := uW_of 293 (by decide +kernel) rfl
theorem u_se_X3_countsToTurn : (Jvm.Cond.selects "KitchenSpits$Spit" ({ cls := "KitchenSpits$Spit", name := "countsToTurn", desc := "()Z" } : Jvm.MethodName) ({ cls := "KitchenSpits$Spit", name := "countsToTurn", desc := "()Z" } : Jvm.MethodName)) ∈ uW := uW_of 294 (by decide +kernel) rfl
theorem u_co_X3_countsToTurn : (Jvm.Cond.code ({ cls := "KitchenSpits$Spit", name := "countsToTurn", desc := "()Z" } : Jvm.MethodName) prog_5_method_4_code (1 : Nat) (Option.some Jvm.ClassFile.FieldType.boolean)) ∈ uW := uW_of 295 (by decide +kernel) rfl
theorem u_ml_X1_128 : (Jvm.Cond.methodLink "KitchenSpits$Kitchen" (128 : Nat) ({ cls := "KitchenSpits$Roast", name := "turn", desc := "()V" } : Jvm.MethodName)) ∈ uW := uW_of 296 (by decide +kernel) rfl
theorem u_im_X2_turn : (Jvm.Cond.instanceMethod ({ cls := "KitchenSpits$Roast", name := "turn", desc := "()V" } : Jvm.MethodName)) ∈ uW := uW_of 297 (by decide +kernel) rfl
theorem u_se_X2_turn : (Jvm.Cond.selects "KitchenSpits$Roast" ({ cls := "KitchenSpits$Roast", name := "turn", desc := "()V" } : Jvm.MethodName) ({ cls := "KitchenSpits$Roast", name := "turn", desc := "()V" } : Jvm.MethodName)) ∈ uW := uW_of 298 (by decide +kernel) rfl
theorem u_co_X2_turn : (Jvm.Cond.code ({ cls := "KitchenSpits$Roast", name := "turn", desc := "()V" } : Jvm.MethodName) prog_4_method_6_code (1 : Nat) (Option.none : Option Jvm.ClassFile.FieldType)) ∈ uW := uW_of 299 (by decide +kernel) rfl
theorem u_ml_X1_98 : (Jvm.Cond.methodLink "KitchenSpits$Kitchen" (98 : Nat) ({ cls := "KitchenSpits$Fire", name := "burn", desc := "(I)V" } : Jvm.MethodName)) ∈ uW := uW_of 300 (by decide +kernel) rfl
theorem u_im_X0_burn : (Jvm.Cond.instanceMethod ({ cls := "KitchenSpits$Fire", name := "burn", desc := "(I)V" } : Jvm.MethodName)) ∈ uW := uW_of 301 (by decide +kernel) rfl
theorem u_se_X0_burn : (Jvm.Cond.selects "KitchenSpits$Fire" ({ cls := "KitchenSpits$Fire", name := "burn", desc := "(I)V" } : Jvm.MethodName) ({ cls := "KitchenSpits$Fire", name := "burn", desc := "(I)V" } : Jvm.MethodName)) ∈ uW := uW_of 302 (by decide +kernel) rfl
theorem u_co_X0_burn : (Jvm.Cond.code ({ cls := "KitchenSpits$Fire", name := "burn", desc := "(I)V" } : Jvm.MethodName) prog_2_method_3_code (3 : Nat) (Option.none : Option Jvm.ClassFile.FieldType)) ∈ uW := uW_of 303 (by decide +kernel) rfl
theorem u_ml_X0_21 : (Jvm.Cond.methodLink "KitchenSpits$Fire" (21 : Nat) ({ cls := "java/lang/Math", name := "min", desc := "(II)I" } : Jvm.MethodName)) ∈ uW := uW_of 304 (by decide +kernel) rfl
theorem u_st_JM_min : (Jvm.Cond.static ({ cls := "java/lang/Math", name := "min", desc := "(II)I" } : Jvm.MethodName)) ∈ uW := uW_of 305 (by decide +kernel) rfl
theorem u_co_JM_min : (Jvm.Cond.code ({ cls := "java/lang/Math", name := "min", desc := "(II)I" } : Jvm.MethodName) prog_12_method_69_code (2 : Nat) (Option.some Jvm.ClassFile.FieldType.int)) ∈ uW := uW_of 306 (by decide +kernel) rfl
theorem u_ml_X0_27 : (Jvm.Cond.methodLink "KitchenSpits$Fire" (27 : Nat) ({ cls := "java/lang/Math", name := "max", desc := "(II)I" } : Jvm.MethodName)) ∈ uW := uW_of 307 (by decide +kernel) rfl
theorem u_ml_X4_180 : (Jvm.Cond.methodLink "KitchenSpits" (180 : Nat) ({ cls := "KitchenSpits$Kitchen", name := "countDone", desc := "()I" } : Jvm.MethodName)) ∈ uW := uW_of 308 (by decide +kernel) rfl
theorem u_im_X1_countDone : (Jvm.Cond.instanceMethod ({ cls := "KitchenSpits$Kitchen", name := "countDone", desc := "()I" } : Jvm.MethodName)) ∈ uW := uW_of 309 (by decide +kernel) rfl
theorem u_se_X1_countDone : (Jvm.Cond.selects "KitchenSpits$Kitchen" ({ cls := "KitchenSpits$Kitchen", name := "countDone", desc := "()I" } : Jvm.MethodName) ({ cls := "KitchenSpits$Kitchen", name := "countDone", desc := "()I" } : Jvm.MethodName)) ∈ uW := uW_of 310 (by decide +kernel) rfl
theorem u_co_X1_countDone : (Jvm.Cond.code ({ cls := "KitchenSpits$Kitchen", name := "countDone", desc := "()I" } : Jvm.MethodName) prog_3_method_13_code (3 : Nat) (Option.some Jvm.ClassFile.FieldType.int)) ∈ uW := uW_of 311 (by decide +kernel) rfl
theorem u_ml_X1_131 : (Jvm.Cond.methodLink "KitchenSpits$Kitchen" (131 : Nat) ({ cls := "KitchenSpits$Roast", name := "done", desc := "()Z" } : Jvm.MethodName)) ∈ uW := uW_of 312 (by decide +kernel) rfl
theorem u_im_X2_done : (Jvm.Cond.instanceMethod ({ cls := "KitchenSpits$Roast", name := "done", desc := "()Z" } : Jvm.MethodName)) ∈ uW := uW_of 313 (by decide +kernel) rfl
theorem u_se_X2_done : (Jvm.Cond.selects "KitchenSpits$Roast" ({ cls := "KitchenSpits$Roast", name := "done", desc := "()Z" } : Jvm.MethodName) ({ cls := "KitchenSpits$Roast", name := "done", desc := "()Z" } : Jvm.MethodName)) ∈ uW := uW_of 314 (by decide +kernel) rfl
theorem u_co_X2_done : (Jvm.Cond.code ({ cls := "KitchenSpits$Roast", name := "done", desc := "()Z" } : Jvm.MethodName) prog_4_method_7_code (5 : Nat) (Option.some Jvm.ClassFile.FieldType.boolean)) ∈ uW := uW_of 315 (by decide +kernel) rfl
theorem u_ml_L_247 : (Jvm.Cond.methodLink "KitchenSpitsLaw" (247 : Nat) ({ cls := "KitchenSpits", name := "meanBrown", desc := "()D" } : Jvm.MethodName)) ∈ uW := uW_of 316 (by decide +kernel) rfl
theorem u_im_X4_meanBrown : (Jvm.Cond.instanceMethod ({ cls := "KitchenSpits", name := "meanBrown", desc := "()D" } : Jvm.MethodName)) ∈ uW := uW_of 317 (by decide +kernel) rfl
theorem u_se_X4_meanBrown : (Jvm.Cond.selects "KitchenSpits" ({ cls := "KitchenSpits", name := "meanBrown", desc := "()D" } : Jvm.MethodName) ({ cls := "KitchenSpits", name := "meanBrown", desc := "()D" } : Jvm.MethodName)) ∈ uW := uW_of 318 (by decide +kernel) rfl
theorem u_co_X4_meanBrown : (Jvm.Cond.code ({ cls := "KitchenSpits", name := "meanBrown", desc := "()D" } : Jvm.MethodName) prog_1_method_40_code (2 : Nat) (Option.some Jvm.ClassFile.FieldType.double)) ∈ uW := uW_of 319 (by decide +kernel) rfl
theorem u_ml_X4_191 : (Jvm.Cond.methodLink "KitchenSpits" (191 : Nat) ({ cls := "KitchenSpits$Kitchen", name := "sumBrown", desc := "()I" } : Jvm.MethodName)) ∈ uW := uW_of 320 (by decide +kernel) rfl
theorem u_im_X1_sumBrown : (Jvm.Cond.instanceMethod ({ cls := "KitchenSpits$Kitchen", name := "sumBrown", desc := "()I" } : Jvm.MethodName)) ∈ uW := uW_of 321 (by decide +kernel) rfl
theorem u_se_X1_sumBrown : (Jvm.Cond.selects "KitchenSpits$Kitchen" ({ cls := "KitchenSpits$Kitchen", name := "sumBrown", desc := "()I" } : Jvm.MethodName) ({ cls := "KitchenSpits$Kitchen", name := "sumBrown", desc := "()I" } : Jvm.MethodName)) ∈ uW := uW_of 322 (by decide +kernel) rfl
theorem u_co_X1_sumBrown : (Jvm.Cond.code ({ cls := "KitchenSpits$Kitchen", name := "sumBrown", desc := "()I" } : Jvm.MethodName) prog_3_method_14_code (7 : Nat) (Option.some Jvm.ClassFile.FieldType.int)) ∈ uW := uW_of 323 (by decide +kernel) rfl
theorem u_ml_L_252 : (Jvm.Cond.methodLink "KitchenSpitsLaw" (252 : Nat) ({ cls := "KitchenSpits", name := "digest", desc := "()J" } : Jvm.MethodName)) ∈ uW := uW_of 324 (by decide +kernel) rfl
theorem u_im_X4_digest : (Jvm.Cond.instanceMethod ({ cls := "KitchenSpits", name := "digest", desc := "()J" } : Jvm.MethodName)) ∈ uW := uW_of 325 (by decide +kernel) rfl
theorem u_se_X4_digest : (Jvm.Cond.selects "KitchenSpits" ({ cls := "KitchenSpits", name := "digest", desc := "()J" } : Jvm.MethodName) ({ cls := "KitchenSpits", name := "digest", desc := "()J" } : Jvm.MethodName)) ∈ uW := uW_of 326 (by decide +kernel) rfl
theorem u_co_X4_digest : (Jvm.Cond.code ({ cls := "KitchenSpits", name := "digest", desc := "()J" } : Jvm.MethodName) prog_1_method_41_code (3 : Nat) (Option.some Jvm.ClassFile.FieldType.long)) ∈ uW := uW_of 327 (by decide +kernel) rfl
theorem u_kl_X4_194 : (Jvm.Cond.constantLong "KitchenSpits" (194 : Nat) (1951 : Int64)) ∈ uW := uW_of 328 (by decide +kernel) rfl
theorem u_ml_X4_196 : (Jvm.Cond.methodLink "KitchenSpits" (196 : Nat) ({ cls := "KitchenSpits", name := "mix", desc := "(JJ)J" } : Jvm.MethodName)) ∈ uW := uW_of 329 (by decide +kernel) rfl
theorem u_st_X4_mix : (Jvm.Cond.static ({ cls := "KitchenSpits", name := "mix", desc := "(JJ)J" } : Jvm.MethodName)) ∈ uW := uW_of 330 (by decide +kernel) rfl
theorem u_co_X4_mix : (Jvm.Cond.code ({ cls := "KitchenSpits", name := "mix", desc := "(JJ)J" } : Jvm.MethodName) prog_1_method_52_code (4 : Nat) (Option.some Jvm.ClassFile.FieldType.long)) ∈ uW := uW_of 331 (by decide +kernel) rfl
theorem u_kl_X4_234 : (Jvm.Cond.constantLong "KitchenSpits" (234 : Nat) (31 : Int64)) ∈ uW := uW_of 332 (by decide +kernel) rfl
theorem u_ml_X4_200 : (Jvm.Cond.methodLink "KitchenSpits" (200 : Nat) ({ cls := "KitchenSpits", name := "mixFires", desc := "(J)J" } : Jvm.MethodName)) ∈ uW := uW_of 333 (by decide +kernel) rfl
theorem u_im_X4_mixFires : (Jvm.Cond.instanceMethod ({ cls := "KitchenSpits", name := "mixFires", desc := "(J)J" } : Jvm.MethodName)) ∈ uW := uW_of 335 (by decide +kernel) rfl
theorem u_co_X4_mixFires : (Jvm.Cond.code ({ cls := "KitchenSpits", name := "mixFires", desc := "(J)J" } : Jvm.MethodName) prog_1_method_53_code (7 : Nat) (Option.some Jvm.ClassFile.FieldType.long)) ∈ uW := uW_of 336 (by decide +kernel) rfl
theorem u_ml_X4_204 : (Jvm.Cond.methodLink "KitchenSpits" (204 : Nat) ({ cls := "KitchenSpits", name := "mixSpits", desc := "(J)J" } : Jvm.MethodName)) ∈ uW := uW_of 337 (by decide +kernel) rfl
theorem u_im_X4_mixSpits : (Jvm.Cond.instanceMethod ({ cls := "KitchenSpits", name := "mixSpits", desc := "(J)J" } : Jvm.MethodName)) ∈ uW := uW_of 339 (by decide +kernel) rfl
theorem u_co_X4_mixSpits : (Jvm.Cond.code ({ cls := "KitchenSpits", name := "mixSpits", desc := "(J)J" } : Jvm.MethodName) prog_1_method_54_code (7 : Nat) (Option.some Jvm.ClassFile.FieldType.long)) ∈ uW := uW_of 340 (by decide +kernel) rfl
theorem u_ml_X4_137 : (Jvm.Cond.methodLink "KitchenSpits" (137 : Nat) ({ cls := "KitchenSpits$Kitchen", name := "glowOf", desc := "(LKitchenSpits$Spit;)I" } : Jvm.MethodName)) ∈ uW := uW_of 341 (by decide +kernel) rfl
theorem u_ml_X4_207 : (Jvm.Cond.methodLink "KitchenSpits" (207 : Nat) ({ cls := "KitchenSpits", name := "mixRoasts", desc := "(J)J" } : Jvm.MethodName)) ∈ uW := uW_of 342 (by decide +kernel) rfl
theorem u_im_X4_mixRoasts : (Jvm.Cond.instanceMethod ({ cls := "KitchenSpits", name := "mixRoasts", desc := "(J)J" } : Jvm.MethodName)) ∈ uW := uW_of 344 (by decide +kernel) rfl
theorem u_co_X4_mixRoasts : (Jvm.Cond.code ({ cls := "KitchenSpits", name := "mixRoasts", desc := "(J)J" } : Jvm.MethodName) prog_1_method_55_code (11 : Nat) (Option.some Jvm.ClassFile.FieldType.long)) ∈ uW := uW_of 345 (by decide +kernel) rfl
theorem u_ml_X4_163 : (Jvm.Cond.methodLink "KitchenSpits" (163 : Nat) ({ cls := "KitchenSpits$Roast", name := "done", desc := "()Z" } : Jvm.MethodName)) ∈ uW := uW_of 346 (by decide +kernel) rfl
theorem u_ml_X4_167 : (Jvm.Cond.methodLink "KitchenSpits" (167 : Nat) ({ cls := "KitchenSpits$Roast", name := "burnt", desc := "()Z" } : Jvm.MethodName)) ∈ uW := uW_of 347 (by decide +kernel) rfl
theorem u_im_X2_burnt : (Jvm.Cond.instanceMethod ({ cls := "KitchenSpits$Roast", name := "burnt", desc := "()Z" } : Jvm.MethodName)) ∈ uW := uW_of 348 (by decide +kernel) rfl
theorem u_se_X2_burnt : (Jvm.Cond.selects "KitchenSpits$Roast" ({ cls := "KitchenSpits$Roast", name := "burnt", desc := "()Z" } : Jvm.MethodName) ({ cls := "KitchenSpits$Roast", name := "burnt", desc := "()Z" } : Jvm.MethodName)) ∈ uW := uW_of 349 (by decide +kernel) rfl
theorem u_co_X2_burnt : (Jvm.Cond.code ({ cls := "KitchenSpits$Roast", name := "burnt", desc := "()Z" } : Jvm.MethodName) prog_4_method_8_code (5 : Nat) (Option.some Jvm.ClassFile.FieldType.boolean)) ∈ uW := uW_of 350 (by decide +kernel) rfl
theorem u_ml_L_119 : (Jvm.Cond.methodLink "KitchenSpitsLaw" (119 : Nat) ({ cls := "KitchenSpitsLaw", name := "addFire", desc := "(LKitchenSpits;[J)I" } : Jvm.MethodName)) ∈ uW := uW_of 351 (by decide +kernel) rfl
theorem u_st_L_addFire : (Jvm.Cond.static ({ cls := "KitchenSpitsLaw", name := "addFire", desc := "(LKitchenSpits;[J)I" } : Jvm.MethodName)) ∈ uW := uW_of 352 (by decide +kernel) rfl
theorem u_co_L_addFire : (Jvm.Cond.codeWith ({ cls := "KitchenSpitsLaw", name := "addFire", desc := "(LKitchenSpits;[J)I" } : Jvm.MethodName) method_3_code (3 : Nat) (Option.some Jvm.ClassFile.FieldType.int) [((0 : Nat), (8 : Nat), (11 : Nat), (13 : Nat))]) ∈ uW := uW_of 353 (by decide +kernel) rfl
theorem u_cl_L_13 : (Jvm.Cond.classLink "KitchenSpitsLaw" (13 : Nat) "java/lang/IllegalStateException") ∈ uW := uW_of 354 (by decide +kernel) rfl
theorem u_ml_L_7 : (Jvm.Cond.methodLink "KitchenSpitsLaw" (7 : Nat) ({ cls := "KitchenSpits", name := "addFire", desc := "()I" } : Jvm.MethodName)) ∈ uW := uW_of 355 (by decide +kernel) rfl
theorem u_im_X4_addFire : (Jvm.Cond.instanceMethod ({ cls := "KitchenSpits", name := "addFire", desc := "()I" } : Jvm.MethodName)) ∈ uW := uW_of 356 (by decide +kernel) rfl
theorem u_se_X4_addFire : (Jvm.Cond.selects "KitchenSpits" ({ cls := "KitchenSpits", name := "addFire", desc := "()I" } : Jvm.MethodName) ({ cls := "KitchenSpits", name := "addFire", desc := "()I" } : Jvm.MethodName)) ∈ uW := uW_of 357 (by decide +kernel) rfl
theorem u_co_X4_addFire : (Jvm.Cond.code ({ cls := "KitchenSpits", name := "addFire", desc := "()I" } : Jvm.MethodName) prog_1_method_2_code (2 : Nat) (Option.some Jvm.ClassFile.FieldType.int)) ∈ uW := uW_of 358 (by decide +kernel) rfl
theorem u_ml_X4_19 : (Jvm.Cond.methodLink "KitchenSpits" (19 : Nat) ({ cls := "KitchenSpits$Kitchen", name := "placeFire", desc := "()I" } : Jvm.MethodName)) ∈ uW := uW_of 359 (by decide +kernel) rfl
theorem u_im_X1_placeFire : (Jvm.Cond.instanceMethod ({ cls := "KitchenSpits$Kitchen", name := "placeFire", desc := "()I" } : Jvm.MethodName)) ∈ uW := uW_of 360 (by decide +kernel) rfl
theorem u_se_X1_placeFire : (Jvm.Cond.selects "KitchenSpits$Kitchen" ({ cls := "KitchenSpits$Kitchen", name := "placeFire", desc := "()I" } : Jvm.MethodName) ({ cls := "KitchenSpits$Kitchen", name := "placeFire", desc := "()I" } : Jvm.MethodName)) ∈ uW := uW_of 361 (by decide +kernel) rfl
theorem u_co_X1_placeFire : (Jvm.Cond.code ({ cls := "KitchenSpits$Kitchen", name := "placeFire", desc := "()I" } : Jvm.MethodName) prog_3_method_6_code (1 : Nat) (Option.some Jvm.ClassFile.FieldType.int)) ∈ uW := uW_of 362 (by decide +kernel) rfl
theorem u_cl_X4_23 : (Jvm.Cond.classLink "KitchenSpits" (23 : Nat) "java/lang/IllegalStateException") ∈ uW := uW_of 363 (by decide +kernel) rfl
theorem u_ins_JS : (Jvm.Cond.instantiable "java/lang/IllegalStateException" (6 : Nat)) ∈ uW := uW_of 364 (by decide +kernel) rfl
theorem u_se_JS_fillInStackTrace : (Jvm.Cond.selects "java/lang/IllegalStateException" ({ cls := "java/lang/Throwable", name := "fillInStackTrace", desc := "(I)Ljava/lang/Throwable;" } : Jvm.MethodName) ({ cls := "java/lang/Throwable", name := "fillInStackTrace", desc := "(I)Ljava/lang/Throwable;" } : Jvm.MethodName)) ∈ uW := uW_of 372 (by decide +kernel) rfl
theorem u_se_JS_fillInStackTrace_373 : (Jvm.Cond.selects "java/lang/IllegalStateException" ({ cls := "java/lang/Throwable", name := "fillInStackTrace", desc := "()Ljava/lang/Throwable;" } : Jvm.MethodName) ({ cls := "java/lang/Throwable", name := "fillInStackTrace", desc := "()Ljava/lang/Throwable;" } : Jvm.MethodName)) ∈ uW := uW_of 373 (by decide +kernel) rfl
theorem u_fl_JT_198 : (Jvm.Cond.fieldLink "java/lang/Throwable" (198 : Nat) "java/lang/Throwable" "backtrace" "Ljava/lang/Object;") ∈ uW := uW_of 384 (by decide +kernel) rfl
theorem u_im_JT_init : (Jvm.Cond.instanceMethod ({ cls := "java/lang/Throwable", name := "<init>", desc := "()V" } : Jvm.MethodName)) ∈ uW := uW_of 386 (by decide +kernel) rfl
theorem u_co_JT_init : (Jvm.Cond.code ({ cls := "java/lang/Throwable", name := "<init>", desc := "()V" } : Jvm.MethodName) prog_16_method_1_code (1 : Nat) (Option.none : Option Jvm.ClassFile.FieldType)) ∈ uW := uW_of 387 (by decide +kernel) rfl
theorem u_ml_JT_1 : (Jvm.Cond.methodLink "java/lang/Throwable" (1 : Nat) ({ cls := "java/lang/Object", name := "<init>", desc := "()V" } : Jvm.MethodName)) ∈ uW := uW_of 388 (by decide +kernel) rfl
theorem u_fl_JT_13 : (Jvm.Cond.fieldLink "java/lang/Throwable" (13 : Nat) "java/lang/Throwable" "UNASSIGNED_STACK" "[Ljava/lang/StackTraceElement;") ∈ uW := uW_of 389 (by decide +kernel) rfl
theorem u_fl_JT_20 : (Jvm.Cond.fieldLink "java/lang/Throwable" (20 : Nat) "java/lang/Throwable" "SUPPRESSED_SENTINEL" "Ljava/util/List;") ∈ uW := uW_of 391 (by decide +kernel) rfl
theorem u_ml_JT_27 : (Jvm.Cond.methodLink "java/lang/Throwable" (27 : Nat) ({ cls := "java/lang/Throwable", name := "fillInStackTrace", desc := "()Ljava/lang/Throwable;" } : Jvm.MethodName)) ∈ uW := uW_of 393 (by decide +kernel) rfl
theorem u_im_JT_fillInStackTrace : (Jvm.Cond.instanceMethod ({ cls := "java/lang/Throwable", name := "fillInStackTrace", desc := "()Ljava/lang/Throwable;" } : Jvm.MethodName)) ∈ uW := uW_of 394 (by decide +kernel) rfl
theorem u_se_JA_fillInStackTrace : (Jvm.Cond.selects "java/lang/IllegalArgumentException" ({ cls := "java/lang/Throwable", name := "fillInStackTrace", desc := "()Ljava/lang/Throwable;" } : Jvm.MethodName) ({ cls := "java/lang/Throwable", name := "fillInStackTrace", desc := "()Ljava/lang/Throwable;" } : Jvm.MethodName)) ∈ uW := uW_of 396 (by decide +kernel) rfl
theorem u_se_JI_fillInStackTrace : (Jvm.Cond.selects "java/lang/IndexOutOfBoundsException" ({ cls := "java/lang/Throwable", name := "fillInStackTrace", desc := "()Ljava/lang/Throwable;" } : Jvm.MethodName) ({ cls := "java/lang/Throwable", name := "fillInStackTrace", desc := "()Ljava/lang/Throwable;" } : Jvm.MethodName)) ∈ uW := uW_of 397 (by decide +kernel) rfl
theorem u_ml_JT_202 : (Jvm.Cond.methodLink "java/lang/Throwable" (202 : Nat) ({ cls := "java/lang/Throwable", name := "fillInStackTrace", desc := "(I)Ljava/lang/Throwable;" } : Jvm.MethodName)) ∈ uW := uW_of 399 (by decide +kernel) rfl
theorem u_im_JT_fillInStackTrace_401 : (Jvm.Cond.instanceMethod ({ cls := "java/lang/Throwable", name := "fillInStackTrace", desc := "(I)Ljava/lang/Throwable;" } : Jvm.MethodName)) ∈ uW := uW_of 401 (by decide +kernel) rfl
theorem u_ins_JT : (Jvm.Cond.instantiable "java/lang/Throwable" (6 : Nat)) ∈ uW := uW_of 402 (by decide +kernel) rfl
theorem u_na_JT_fillInStackTrace : (Jvm.Cond.native ({ cls := "java/lang/Throwable", name := "fillInStackTrace", desc := "(I)Ljava/lang/Throwable;" } : Jvm.MethodName)) ∈ uW := uW_of 403 (by decide +kernel) rfl
theorem u_ml_X4_27 : (Jvm.Cond.methodLink "KitchenSpits" (27 : Nat) ({ cls := "java/lang/IllegalStateException", name := "<init>", desc := "(Ljava/lang/String;)V" } : Jvm.MethodName)) ∈ uW := uW_of 405 (by decide +kernel) rfl
theorem u_im_JS_init : (Jvm.Cond.instanceMethod ({ cls := "java/lang/IllegalStateException", name := "<init>", desc := "(Ljava/lang/String;)V" } : Jvm.MethodName)) ∈ uW := uW_of 406 (by decide +kernel) rfl
theorem u_co_JS_init : (Jvm.Cond.code ({ cls := "java/lang/IllegalStateException", name := "<init>", desc := "(Ljava/lang/String;)V" } : Jvm.MethodName) prog_10_method_2_code (2 : Nat) (Option.none : Option Jvm.ClassFile.FieldType)) ∈ uW := uW_of 407 (by decide +kernel) rfl
theorem u_ml_JS_7 : (Jvm.Cond.methodLink "java/lang/IllegalStateException" (7 : Nat) ({ cls := "java/lang/RuntimeException", name := "<init>", desc := "(Ljava/lang/String;)V" } : Jvm.MethodName)) ∈ uW := uW_of 408 (by decide +kernel) rfl
theorem u_im_JR_init : (Jvm.Cond.instanceMethod ({ cls := "java/lang/RuntimeException", name := "<init>", desc := "(Ljava/lang/String;)V" } : Jvm.MethodName)) ∈ uW := uW_of 409 (by decide +kernel) rfl
theorem u_co_JR_init : (Jvm.Cond.code ({ cls := "java/lang/RuntimeException", name := "<init>", desc := "(Ljava/lang/String;)V" } : Jvm.MethodName) prog_13_method_2_code (2 : Nat) (Option.none : Option Jvm.ClassFile.FieldType)) ∈ uW := uW_of 410 (by decide +kernel) rfl
theorem u_ml_JR_7 : (Jvm.Cond.methodLink "java/lang/RuntimeException" (7 : Nat) ({ cls := "java/lang/Exception", name := "<init>", desc := "(Ljava/lang/String;)V" } : Jvm.MethodName)) ∈ uW := uW_of 411 (by decide +kernel) rfl
theorem u_im_JE_init : (Jvm.Cond.instanceMethod ({ cls := "java/lang/Exception", name := "<init>", desc := "(Ljava/lang/String;)V" } : Jvm.MethodName)) ∈ uW := uW_of 412 (by decide +kernel) rfl
theorem u_co_JE_init : (Jvm.Cond.code ({ cls := "java/lang/Exception", name := "<init>", desc := "(Ljava/lang/String;)V" } : Jvm.MethodName) prog_8_method_2_code (2 : Nat) (Option.none : Option Jvm.ClassFile.FieldType)) ∈ uW := uW_of 413 (by decide +kernel) rfl
theorem u_ml_JE_7 : (Jvm.Cond.methodLink "java/lang/Exception" (7 : Nat) ({ cls := "java/lang/Throwable", name := "<init>", desc := "(Ljava/lang/String;)V" } : Jvm.MethodName)) ∈ uW := uW_of 414 (by decide +kernel) rfl
theorem u_im_JT_init_415 : (Jvm.Cond.instanceMethod ({ cls := "java/lang/Throwable", name := "<init>", desc := "(Ljava/lang/String;)V" } : Jvm.MethodName)) ∈ uW := uW_of 415 (by decide +kernel) rfl
theorem u_co_JT_init_416 : (Jvm.Cond.code ({ cls := "java/lang/Throwable", name := "<init>", desc := "(Ljava/lang/String;)V" } : Jvm.MethodName) prog_16_method_2_code (2 : Nat) (Option.none : Option Jvm.ClassFile.FieldType)) ∈ uW := uW_of 416 (by decide +kernel) rfl
theorem u_fl_JT_198_417 : (Jvm.Cond.fieldLink "java/lang/Throwable" (198 : Nat) "java/lang/Throwable" "backtrace" "Ljava/lang/Object;") ∈ uW := uW_of 417 (by decide +kernel) rfl
theorem u_fl_JT_31 : (Jvm.Cond.fieldLink "java/lang/Throwable" (31 : Nat) "java/lang/Throwable" "detailMessage" "Ljava/lang/String;") ∈ uW := uW_of 418 (by decide +kernel) rfl
theorem u_fl_JT_7 : (Jvm.Cond.fieldLink "java/lang/Throwable" (7 : Nat) "java/lang/Throwable" "cause" "Ljava/lang/Throwable;") ∈ uW := uW_of 419 (by decide +kernel) rfl
theorem u_fl_JT_17 : (Jvm.Cond.fieldLink "java/lang/Throwable" (17 : Nat) "java/lang/Throwable" "stackTrace" "[Ljava/lang/StackTraceElement;") ∈ uW := uW_of 420 (by decide +kernel) rfl
theorem u_fl_JT_24 : (Jvm.Cond.fieldLink "java/lang/Throwable" (24 : Nat) "java/lang/Throwable" "suppressedExceptions" "Ljava/util/List;") ∈ uW := uW_of 421 (by decide +kernel) rfl
theorem u_ac_byte : (Jvm.Cond.arrayClass Jvm.ClassFile.FieldType.byte) ∈ uW := uW_of 430 (by decide +kernel) rfl
theorem u_ml_L_128 : (Jvm.Cond.methodLink "KitchenSpitsLaw" (128 : Nat) ({ cls := "KitchenSpitsLaw", name := "layLogs", desc := "(LKitchenSpits;II[J)I" } : Jvm.MethodName)) ∈ uW := uW_of 431 (by decide +kernel) rfl
theorem u_st_L_layLogs : (Jvm.Cond.static ({ cls := "KitchenSpitsLaw", name := "layLogs", desc := "(LKitchenSpits;II[J)I" } : Jvm.MethodName)) ∈ uW := uW_of 432 (by decide +kernel) rfl
theorem u_co_L_layLogs : (Jvm.Cond.codeWith ({ cls := "KitchenSpitsLaw", name := "layLogs", desc := "(LKitchenSpits;II[J)I" } : Jvm.MethodName) method_4_code (5 : Nat) (Option.some Jvm.ClassFile.FieldType.int) [((0 : Nat), (10 : Nat), (13 : Nat), (19 : Nat)), ((0 : Nat), (10 : Nat), (17 : Nat), (21 : Nat))]) ∈ uW := uW_of 433 (by decide +kernel) rfl
theorem u_cl_L_19 : (Jvm.Cond.classLink "KitchenSpitsLaw" (19 : Nat) "java/lang/IndexOutOfBoundsException") ∈ uW := uW_of 434 (by decide +kernel) rfl
theorem u_cl_L_21 : (Jvm.Cond.classLink "KitchenSpitsLaw" (21 : Nat) "java/lang/IllegalArgumentException") ∈ uW := uW_of 435 (by decide +kernel) rfl
theorem u_ml_L_15 : (Jvm.Cond.methodLink "KitchenSpitsLaw" (15 : Nat) ({ cls := "KitchenSpits", name := "layLogs", desc := "(II)I" } : Jvm.MethodName)) ∈ uW := uW_of 436 (by decide +kernel) rfl
theorem u_im_X4_layLogs : (Jvm.Cond.instanceMethod ({ cls := "KitchenSpits", name := "layLogs", desc := "(II)I" } : Jvm.MethodName)) ∈ uW := uW_of 437 (by decide +kernel) rfl
theorem u_se_X4_layLogs : (Jvm.Cond.selects "KitchenSpits" ({ cls := "KitchenSpits", name := "layLogs", desc := "(II)I" } : Jvm.MethodName) ({ cls := "KitchenSpits", name := "layLogs", desc := "(II)I" } : Jvm.MethodName)) ∈ uW := uW_of 438 (by decide +kernel) rfl
theorem u_co_X4_layLogs : (Jvm.Cond.code ({ cls := "KitchenSpits", name := "layLogs", desc := "(II)I" } : Jvm.MethodName) prog_1_method_3_code (4 : Nat) (Option.some Jvm.ClassFile.FieldType.int)) ∈ uW := uW_of 439 (by decide +kernel) rfl
theorem u_ml_X4_30 : (Jvm.Cond.methodLink "KitchenSpits" (30 : Nat) ({ cls := "KitchenSpits", name := "needFire", desc := "(I)LKitchenSpits$Fire;" } : Jvm.MethodName)) ∈ uW := uW_of 440 (by decide +kernel) rfl
theorem u_im_X4_needFire : (Jvm.Cond.instanceMethod ({ cls := "KitchenSpits", name := "needFire", desc := "(I)LKitchenSpits$Fire;" } : Jvm.MethodName)) ∈ uW := uW_of 442 (by decide +kernel) rfl
theorem u_co_X4_needFire : (Jvm.Cond.code ({ cls := "KitchenSpits", name := "needFire", desc := "(I)LKitchenSpits$Fire;" } : Jvm.MethodName) prog_1_method_42_code (3 : Nat) (Option.some (Jvm.ClassFile.FieldType.object "KitchenSpits$Fire"))) ∈ uW := uW_of 443 (by decide +kernel) rfl
theorem u_ml_X4_210 : (Jvm.Cond.methodLink "KitchenSpits" (210 : Nat) ({ cls := "KitchenSpits$Kitchen", name := "fireAt", desc := "(I)LKitchenSpits$Fire;" } : Jvm.MethodName)) ∈ uW := uW_of 444 (by decide +kernel) rfl
theorem u_cl_X4_155 : (Jvm.Cond.classLink "KitchenSpits" (155 : Nat) "java/lang/IndexOutOfBoundsException") ∈ uW := uW_of 445 (by decide +kernel) rfl
theorem u_ins_JI : (Jvm.Cond.instantiable "java/lang/IndexOutOfBoundsException" (6 : Nat)) ∈ uW := uW_of 446 (by decide +kernel) rfl
theorem u_se_JI_fillInStackTrace_448 : (Jvm.Cond.selects "java/lang/IndexOutOfBoundsException" ({ cls := "java/lang/Throwable", name := "fillInStackTrace", desc := "(I)Ljava/lang/Throwable;" } : Jvm.MethodName) ({ cls := "java/lang/Throwable", name := "fillInStackTrace", desc := "(I)Ljava/lang/Throwable;" } : Jvm.MethodName)) ∈ uW := uW_of 448 (by decide +kernel) rfl
theorem u_ml_X4_159 : (Jvm.Cond.methodLink "KitchenSpits" (159 : Nat) ({ cls := "java/lang/IndexOutOfBoundsException", name := "<init>", desc := "(Ljava/lang/String;)V" } : Jvm.MethodName)) ∈ uW := uW_of 455 (by decide +kernel) rfl
theorem u_im_JI_init : (Jvm.Cond.instanceMethod ({ cls := "java/lang/IndexOutOfBoundsException", name := "<init>", desc := "(Ljava/lang/String;)V" } : Jvm.MethodName)) ∈ uW := uW_of 456 (by decide +kernel) rfl
theorem u_co_JI_init : (Jvm.Cond.code ({ cls := "java/lang/IndexOutOfBoundsException", name := "<init>", desc := "(Ljava/lang/String;)V" } : Jvm.MethodName) prog_11_method_2_code (2 : Nat) (Option.none : Option Jvm.ClassFile.FieldType)) ∈ uW := uW_of 457 (by decide +kernel) rfl
theorem u_ml_JI_7 : (Jvm.Cond.methodLink "java/lang/IndexOutOfBoundsException" (7 : Nat) ({ cls := "java/lang/RuntimeException", name := "<init>", desc := "(Ljava/lang/String;)V" } : Jvm.MethodName)) ∈ uW := uW_of 458 (by decide +kernel) rfl
theorem u_cl_X4_34 : (Jvm.Cond.classLink "KitchenSpits" (34 : Nat) "java/lang/IllegalArgumentException") ∈ uW := uW_of 461 (by decide +kernel) rfl
theorem u_ins_JA : (Jvm.Cond.instantiable "java/lang/IllegalArgumentException" (6 : Nat)) ∈ uW := uW_of 462 (by decide +kernel) rfl
theorem u_se_JA_fillInStackTrace_464 : (Jvm.Cond.selects "java/lang/IllegalArgumentException" ({ cls := "java/lang/Throwable", name := "fillInStackTrace", desc := "(I)Ljava/lang/Throwable;" } : Jvm.MethodName) ({ cls := "java/lang/Throwable", name := "fillInStackTrace", desc := "(I)Ljava/lang/Throwable;" } : Jvm.MethodName)) ∈ uW := uW_of 464 (by decide +kernel) rfl
theorem u_ml_X4_38 : (Jvm.Cond.methodLink "KitchenSpits" (38 : Nat) ({ cls := "java/lang/IllegalArgumentException", name := "<init>", desc := "(Ljava/lang/String;)V" } : Jvm.MethodName)) ∈ uW := uW_of 471 (by decide +kernel) rfl
theorem u_im_JA_init : (Jvm.Cond.instanceMethod ({ cls := "java/lang/IllegalArgumentException", name := "<init>", desc := "(Ljava/lang/String;)V" } : Jvm.MethodName)) ∈ uW := uW_of 472 (by decide +kernel) rfl
theorem u_co_JA_init : (Jvm.Cond.code ({ cls := "java/lang/IllegalArgumentException", name := "<init>", desc := "(Ljava/lang/String;)V" } : Jvm.MethodName) prog_9_method_2_code (2 : Nat) (Option.none : Option Jvm.ClassFile.FieldType)) ∈ uW := uW_of 473 (by decide +kernel) rfl
theorem u_ml_JA_7 : (Jvm.Cond.methodLink "java/lang/IllegalArgumentException" (7 : Nat) ({ cls := "java/lang/RuntimeException", name := "<init>", desc := "(Ljava/lang/String;)V" } : Jvm.MethodName)) ∈ uW := uW_of 474 (by decide +kernel) rfl
theorem u_ml_X4_45 : (Jvm.Cond.methodLink "KitchenSpits" (45 : Nat) ({ cls := "java/lang/Math", name := "min", desc := "(II)I" } : Jvm.MethodName)) ∈ uW := uW_of 477 (by decide +kernel) rfl
theorem u_ml_L_132 : (Jvm.Cond.methodLink "KitchenSpitsLaw" (132 : Nat) ({ cls := "KitchenSpitsLaw", name := "addSpit", desc := "(LKitchenSpits;II[J)I" } : Jvm.MethodName)) ∈ uW := uW_of 478 (by decide +kernel) rfl
theorem u_st_L_addSpit : (Jvm.Cond.static ({ cls := "KitchenSpitsLaw", name := "addSpit", desc := "(LKitchenSpits;II[J)I" } : Jvm.MethodName)) ∈ uW := uW_of 479 (by decide +kernel) rfl
theorem u_co_L_addSpit : (Jvm.Cond.codeWith ({ cls := "KitchenSpitsLaw", name := "addSpit", desc := "(LKitchenSpits;II[J)I" } : Jvm.MethodName) method_5_code (5 : Nat) (Option.some Jvm.ClassFile.FieldType.int) [((0 : Nat), (10 : Nat), (13 : Nat), (19 : Nat)), ((0 : Nat), (10 : Nat), (17 : Nat), (21 : Nat)), ((0 : Nat), (10 : Nat), (21 : Nat), (13 : Nat))]) ∈ uW := uW_of 480 (by decide +kernel) rfl
theorem u_ml_L_23 : (Jvm.Cond.methodLink "KitchenSpitsLaw" (23 : Nat) ({ cls := "KitchenSpits", name := "addSpit", desc := "(II)I" } : Jvm.MethodName)) ∈ uW := uW_of 481 (by decide +kernel) rfl
theorem u_im_X4_addSpit : (Jvm.Cond.instanceMethod ({ cls := "KitchenSpits", name := "addSpit", desc := "(II)I" } : Jvm.MethodName)) ∈ uW := uW_of 482 (by decide +kernel) rfl
theorem u_se_X4_addSpit : (Jvm.Cond.selects "KitchenSpits" ({ cls := "KitchenSpits", name := "addSpit", desc := "(II)I" } : Jvm.MethodName) ({ cls := "KitchenSpits", name := "addSpit", desc := "(II)I" } : Jvm.MethodName)) ∈ uW := uW_of 483 (by decide +kernel) rfl
theorem u_co_X4_addSpit : (Jvm.Cond.code ({ cls := "KitchenSpits", name := "addSpit", desc := "(II)I" } : Jvm.MethodName) prog_1_method_4_code (4 : Nat) (Option.some Jvm.ClassFile.FieldType.int)) ∈ uW := uW_of 484 (by decide +kernel) rfl
theorem u_ml_X4_51 : (Jvm.Cond.methodLink "KitchenSpits" (51 : Nat) ({ cls := "KitchenSpits", name := "needFeet", desc := "(I)V" } : Jvm.MethodName)) ∈ uW := uW_of 485 (by decide +kernel) rfl
theorem u_st_X4_needFeet : (Jvm.Cond.static ({ cls := "KitchenSpits", name := "needFeet", desc := "(I)V" } : Jvm.MethodName)) ∈ uW := uW_of 486 (by decide +kernel) rfl
theorem u_co_X4_needFeet : (Jvm.Cond.code ({ cls := "KitchenSpits", name := "needFeet", desc := "(I)V" } : Jvm.MethodName) prog_1_method_46_code (1 : Nat) (Option.none : Option Jvm.ClassFile.FieldType)) ∈ uW := uW_of 487 (by decide +kernel) rfl
theorem u_ml_X4_55 : (Jvm.Cond.methodLink "KitchenSpits" (55 : Nat) ({ cls := "KitchenSpits$Kitchen", name := "placeSpit", desc := "(II)I" } : Jvm.MethodName)) ∈ uW := uW_of 489 (by decide +kernel) rfl
theorem u_im_X1_placeSpit : (Jvm.Cond.instanceMethod ({ cls := "KitchenSpits$Kitchen", name := "placeSpit", desc := "(II)I" } : Jvm.MethodName)) ∈ uW := uW_of 490 (by decide +kernel) rfl
theorem u_se_X1_placeSpit : (Jvm.Cond.selects "KitchenSpits$Kitchen" ({ cls := "KitchenSpits$Kitchen", name := "placeSpit", desc := "(II)I" } : Jvm.MethodName) ({ cls := "KitchenSpits$Kitchen", name := "placeSpit", desc := "(II)I" } : Jvm.MethodName)) ∈ uW := uW_of 491 (by decide +kernel) rfl
theorem u_co_X1_placeSpit : (Jvm.Cond.code ({ cls := "KitchenSpits$Kitchen", name := "placeSpit", desc := "(II)I" } : Jvm.MethodName) prog_3_method_7_code (4 : Nat) (Option.some Jvm.ClassFile.FieldType.int)) ∈ uW := uW_of 492 (by decide +kernel) rfl
theorem u_ml_L_135 : (Jvm.Cond.methodLink "KitchenSpitsLaw" (135 : Nat) ({ cls := "KitchenSpitsLaw", name := "moveSpit", desc := "(LKitchenSpits;II[J)I" } : Jvm.MethodName)) ∈ uW := uW_of 494 (by decide +kernel) rfl
theorem u_st_L_moveSpit : (Jvm.Cond.static ({ cls := "KitchenSpitsLaw", name := "moveSpit", desc := "(LKitchenSpits;II[J)I" } : Jvm.MethodName)) ∈ uW := uW_of 495 (by decide +kernel) rfl
theorem u_co_L_moveSpit : (Jvm.Cond.codeWith ({ cls := "KitchenSpitsLaw", name := "moveSpit", desc := "(LKitchenSpits;II[J)I" } : Jvm.MethodName) method_6_code (5 : Nat) (Option.some Jvm.ClassFile.FieldType.int) [((0 : Nat), (10 : Nat), (13 : Nat), (19 : Nat)), ((0 : Nat), (10 : Nat), (17 : Nat), (21 : Nat))]) ∈ uW := uW_of 496 (by decide +kernel) rfl
theorem u_ml_L_26 : (Jvm.Cond.methodLink "KitchenSpitsLaw" (26 : Nat) ({ cls := "KitchenSpits", name := "moveSpit", desc := "(II)I" } : Jvm.MethodName)) ∈ uW := uW_of 497 (by decide +kernel) rfl
theorem u_im_X4_moveSpit : (Jvm.Cond.instanceMethod ({ cls := "KitchenSpits", name := "moveSpit", desc := "(II)I" } : Jvm.MethodName)) ∈ uW := uW_of 498 (by decide +kernel) rfl
theorem u_se_X4_moveSpit : (Jvm.Cond.selects "KitchenSpits" ({ cls := "KitchenSpits", name := "moveSpit", desc := "(II)I" } : Jvm.MethodName) ({ cls := "KitchenSpits", name := "moveSpit", desc := "(II)I" } : Jvm.MethodName)) ∈ uW := uW_of 499 (by decide +kernel) rfl
theorem u_co_X4_moveSpit : (Jvm.Cond.code ({ cls := "KitchenSpits", name := "moveSpit", desc := "(II)I" } : Jvm.MethodName) prog_1_method_5_code (5 : Nat) (Option.some Jvm.ClassFile.FieldType.int)) ∈ uW := uW_of 500 (by decide +kernel) rfl
theorem u_ml_X4_60 : (Jvm.Cond.methodLink "KitchenSpits" (60 : Nat) ({ cls := "KitchenSpits", name := "needSpit", desc := "(I)LKitchenSpits$Spit;" } : Jvm.MethodName)) ∈ uW := uW_of 501 (by decide +kernel) rfl
theorem u_im_X4_needSpit : (Jvm.Cond.instanceMethod ({ cls := "KitchenSpits", name := "needSpit", desc := "(I)LKitchenSpits$Spit;" } : Jvm.MethodName)) ∈ uW := uW_of 503 (by decide +kernel) rfl
theorem u_co_X4_needSpit : (Jvm.Cond.code ({ cls := "KitchenSpits", name := "needSpit", desc := "(I)LKitchenSpits$Spit;" } : Jvm.MethodName) prog_1_method_43_code (3 : Nat) (Option.some (Jvm.ClassFile.FieldType.object "KitchenSpits$Spit"))) ∈ uW := uW_of 504 (by decide +kernel) rfl
theorem u_ml_X4_215 : (Jvm.Cond.methodLink "KitchenSpits" (215 : Nat) ({ cls := "KitchenSpits$Kitchen", name := "spitAt", desc := "(I)LKitchenSpits$Spit;" } : Jvm.MethodName)) ∈ uW := uW_of 505 (by decide +kernel) rfl
theorem u_im_X1_spitAt : (Jvm.Cond.instanceMethod ({ cls := "KitchenSpits$Kitchen", name := "spitAt", desc := "(I)LKitchenSpits$Spit;" } : Jvm.MethodName)) ∈ uW := uW_of 506 (by decide +kernel) rfl
theorem u_se_X1_spitAt : (Jvm.Cond.selects "KitchenSpits$Kitchen" ({ cls := "KitchenSpits$Kitchen", name := "spitAt", desc := "(I)LKitchenSpits$Spit;" } : Jvm.MethodName) ({ cls := "KitchenSpits$Kitchen", name := "spitAt", desc := "(I)LKitchenSpits$Spit;" } : Jvm.MethodName)) ∈ uW := uW_of 507 (by decide +kernel) rfl
theorem u_co_X1_spitAt : (Jvm.Cond.code ({ cls := "KitchenSpits$Kitchen", name := "spitAt", desc := "(I)LKitchenSpits$Spit;" } : Jvm.MethodName) prog_3_method_4_code (2 : Nat) (Option.some (Jvm.ClassFile.FieldType.object "KitchenSpits$Spit"))) ∈ uW := uW_of 508 (by decide +kernel) rfl
theorem u_ml_L_138 : (Jvm.Cond.methodLink "KitchenSpitsLaw" (138 : Nat) ({ cls := "KitchenSpitsLaw", name := "turnEach", desc := "(LKitchenSpits;II[J)I" } : Jvm.MethodName)) ∈ uW := uW_of 510 (by decide +kernel) rfl
theorem u_st_L_turnEach : (Jvm.Cond.static ({ cls := "KitchenSpitsLaw", name := "turnEach", desc := "(LKitchenSpits;II[J)I" } : Jvm.MethodName)) ∈ uW := uW_of 511 (by decide +kernel) rfl
theorem u_co_L_turnEach : (Jvm.Cond.codeWith ({ cls := "KitchenSpitsLaw", name := "turnEach", desc := "(LKitchenSpits;II[J)I" } : Jvm.MethodName) method_7_code (5 : Nat) (Option.some Jvm.ClassFile.FieldType.int) [((0 : Nat), (10 : Nat), (13 : Nat), (19 : Nat)), ((0 : Nat), (10 : Nat), (17 : Nat), (21 : Nat))]) ∈ uW := uW_of 512 (by decide +kernel) rfl
theorem u_ml_L_29 : (Jvm.Cond.methodLink "KitchenSpitsLaw" (29 : Nat) ({ cls := "KitchenSpits", name := "turnEach", desc := "(II)I" } : Jvm.MethodName)) ∈ uW := uW_of 513 (by decide +kernel) rfl
theorem u_im_X4_turnEach : (Jvm.Cond.instanceMethod ({ cls := "KitchenSpits", name := "turnEach", desc := "(II)I" } : Jvm.MethodName)) ∈ uW := uW_of 514 (by decide +kernel) rfl
theorem u_se_X4_turnEach : (Jvm.Cond.selects "KitchenSpits" ({ cls := "KitchenSpits", name := "turnEach", desc := "(II)I" } : Jvm.MethodName) ({ cls := "KitchenSpits", name := "turnEach", desc := "(II)I" } : Jvm.MethodName)) ∈ uW := uW_of 515 (by decide +kernel) rfl
theorem u_co_X4_turnEach : (Jvm.Cond.code ({ cls := "KitchenSpits", name := "turnEach", desc := "(II)I" } : Jvm.MethodName) prog_1_method_6_code (5 : Nat) (Option.some Jvm.ClassFile.FieldType.int)) ∈ uW := uW_of 516 (by decide +kernel) rfl
theorem u_ml_X4_74 : (Jvm.Cond.methodLink "KitchenSpits" (74 : Nat) ({ cls := "KitchenSpits$Spit", name := "countAnew", desc := "(I)V" } : Jvm.MethodName)) ∈ uW := uW_of 518 (by decide +kernel) rfl
theorem u_im_X3_countAnew : (Jvm.Cond.instanceMethod ({ cls := "KitchenSpits$Spit", name := "countAnew", desc := "(I)V" } : Jvm.MethodName)) ∈ uW := uW_of 519 (by decide +kernel) rfl
theorem u_se_X3_countAnew : (Jvm.Cond.selects "KitchenSpits$Spit" ({ cls := "KitchenSpits$Spit", name := "countAnew", desc := "(I)V" } : Jvm.MethodName) ({ cls := "KitchenSpits$Spit", name := "countAnew", desc := "(I)V" } : Jvm.MethodName)) ∈ uW := uW_of 520 (by decide +kernel) rfl
theorem u_co_X3_countAnew : (Jvm.Cond.code ({ cls := "KitchenSpits$Spit", name := "countAnew", desc := "(I)V" } : Jvm.MethodName) prog_5_method_3_code (2 : Nat) (Option.none : Option Jvm.ClassFile.FieldType)) ∈ uW := uW_of 521 (by decide +kernel) rfl
theorem u_ml_L_141 : (Jvm.Cond.methodLink "KitchenSpitsLaw" (141 : Nat) ({ cls := "KitchenSpitsLaw", name := "setFeast", desc := "(LKitchenSpits;I[J)I" } : Jvm.MethodName)) ∈ uW := uW_of 522 (by decide +kernel) rfl
theorem u_st_L_setFeast : (Jvm.Cond.static ({ cls := "KitchenSpitsLaw", name := "setFeast", desc := "(LKitchenSpits;I[J)I" } : Jvm.MethodName)) ∈ uW := uW_of 523 (by decide +kernel) rfl
theorem u_co_L_setFeast : (Jvm.Cond.codeWith ({ cls := "KitchenSpitsLaw", name := "setFeast", desc := "(LKitchenSpits;I[J)I" } : Jvm.MethodName) method_8_code (4 : Nat) (Option.some Jvm.ClassFile.FieldType.int) [((0 : Nat), (9 : Nat), (12 : Nat), (21 : Nat))]) ∈ uW := uW_of 524 (by decide +kernel) rfl
theorem u_ml_L_32 : (Jvm.Cond.methodLink "KitchenSpitsLaw" (32 : Nat) ({ cls := "KitchenSpits", name := "setFeast", desc := "(I)I" } : Jvm.MethodName)) ∈ uW := uW_of 525 (by decide +kernel) rfl
theorem u_im_X4_setFeast : (Jvm.Cond.instanceMethod ({ cls := "KitchenSpits", name := "setFeast", desc := "(I)I" } : Jvm.MethodName)) ∈ uW := uW_of 526 (by decide +kernel) rfl
theorem u_se_X4_setFeast : (Jvm.Cond.selects "KitchenSpits" ({ cls := "KitchenSpits", name := "setFeast", desc := "(I)I" } : Jvm.MethodName) ({ cls := "KitchenSpits", name := "setFeast", desc := "(I)I" } : Jvm.MethodName)) ∈ uW := uW_of 527 (by decide +kernel) rfl
theorem u_co_X4_setFeast : (Jvm.Cond.code ({ cls := "KitchenSpits", name := "setFeast", desc := "(I)I" } : Jvm.MethodName) prog_1_method_7_code (3 : Nat) (Option.some Jvm.ClassFile.FieldType.int)) ∈ uW := uW_of 528 (by decide +kernel) rfl
theorem u_ml_L_145 : (Jvm.Cond.methodLink "KitchenSpitsLaw" (145 : Nat) ({ cls := "KitchenSpitsLaw", name := "hang", desc := "(LKitchenSpits;II[J)I" } : Jvm.MethodName)) ∈ uW := uW_of 530 (by decide +kernel) rfl
theorem u_st_L_hang : (Jvm.Cond.static ({ cls := "KitchenSpitsLaw", name := "hang", desc := "(LKitchenSpits;II[J)I" } : Jvm.MethodName)) ∈ uW := uW_of 531 (by decide +kernel) rfl
theorem u_co_L_hang : (Jvm.Cond.codeWith ({ cls := "KitchenSpitsLaw", name := "hang", desc := "(LKitchenSpits;II[J)I" } : Jvm.MethodName) method_9_code (5 : Nat) (Option.some Jvm.ClassFile.FieldType.int) [((0 : Nat), (10 : Nat), (13 : Nat), (19 : Nat)), ((0 : Nat), (10 : Nat), (17 : Nat), (21 : Nat)), ((0 : Nat), (10 : Nat), (21 : Nat), (13 : Nat))]) ∈ uW := uW_of 532 (by decide +kernel) rfl
theorem u_ml_L_36 : (Jvm.Cond.methodLink "KitchenSpitsLaw" (36 : Nat) ({ cls := "KitchenSpits", name := "hang", desc := "(II)I" } : Jvm.MethodName)) ∈ uW := uW_of 533 (by decide +kernel) rfl
theorem u_im_X4_hang : (Jvm.Cond.instanceMethod ({ cls := "KitchenSpits", name := "hang", desc := "(II)I" } : Jvm.MethodName)) ∈ uW := uW_of 534 (by decide +kernel) rfl
theorem u_se_X4_hang : (Jvm.Cond.selects "KitchenSpits" ({ cls := "KitchenSpits", name := "hang", desc := "(II)I" } : Jvm.MethodName) ({ cls := "KitchenSpits", name := "hang", desc := "(II)I" } : Jvm.MethodName)) ∈ uW := uW_of 535 (by decide +kernel) rfl
theorem u_co_X4_hang : (Jvm.Cond.code ({ cls := "KitchenSpits", name := "hang", desc := "(II)I" } : Jvm.MethodName) prog_1_method_8_code (4 : Nat) (Option.some Jvm.ClassFile.FieldType.int)) ∈ uW := uW_of 536 (by decide +kernel) rfl
theorem u_ml_X4_82 : (Jvm.Cond.methodLink "KitchenSpits" (82 : Nat) ({ cls := "KitchenSpits", name := "needPounds", desc := "(I)V" } : Jvm.MethodName)) ∈ uW := uW_of 537 (by decide +kernel) rfl
theorem u_st_X4_needPounds : (Jvm.Cond.static ({ cls := "KitchenSpits", name := "needPounds", desc := "(I)V" } : Jvm.MethodName)) ∈ uW := uW_of 538 (by decide +kernel) rfl
theorem u_co_X4_needPounds : (Jvm.Cond.code ({ cls := "KitchenSpits", name := "needPounds", desc := "(I)V" } : Jvm.MethodName) prog_1_method_47_code (1 : Nat) (Option.none : Option Jvm.ClassFile.FieldType)) ∈ uW := uW_of 539 (by decide +kernel) rfl
theorem u_ml_X4_85 : (Jvm.Cond.methodLink "KitchenSpits" (85 : Nat) ({ cls := "KitchenSpits$Kitchen", name := "placeRoast", desc := "(II)I" } : Jvm.MethodName)) ∈ uW := uW_of 541 (by decide +kernel) rfl
theorem u_im_X1_placeRoast : (Jvm.Cond.instanceMethod ({ cls := "KitchenSpits$Kitchen", name := "placeRoast", desc := "(II)I" } : Jvm.MethodName)) ∈ uW := uW_of 542 (by decide +kernel) rfl
theorem u_se_X1_placeRoast : (Jvm.Cond.selects "KitchenSpits$Kitchen" ({ cls := "KitchenSpits$Kitchen", name := "placeRoast", desc := "(II)I" } : Jvm.MethodName) ({ cls := "KitchenSpits$Kitchen", name := "placeRoast", desc := "(II)I" } : Jvm.MethodName)) ∈ uW := uW_of 543 (by decide +kernel) rfl
theorem u_co_X1_placeRoast : (Jvm.Cond.code ({ cls := "KitchenSpits$Kitchen", name := "placeRoast", desc := "(II)I" } : Jvm.MethodName) prog_3_method_8_code (5 : Nat) (Option.some Jvm.ClassFile.FieldType.int)) ∈ uW := uW_of 544 (by decide +kernel) rfl
theorem u_ml_X1_64 : (Jvm.Cond.methodLink "KitchenSpits$Kitchen" (64 : Nat) ({ cls := "KitchenSpits$Kitchen", name := "spitAt", desc := "(I)LKitchenSpits$Spit;" } : Jvm.MethodName)) ∈ uW := uW_of 545 (by decide +kernel) rfl
theorem u_ml_L_148 : (Jvm.Cond.methodLink "KitchenSpitsLaw" (148 : Nat) ({ cls := "KitchenSpitsLaw", name := "turnNow", desc := "(LKitchenSpits;I[J)I" } : Jvm.MethodName)) ∈ uW := uW_of 547 (by decide +kernel) rfl
theorem u_st_L_turnNow : (Jvm.Cond.static ({ cls := "KitchenSpitsLaw", name := "turnNow", desc := "(LKitchenSpits;I[J)I" } : Jvm.MethodName)) ∈ uW := uW_of 548 (by decide +kernel) rfl
theorem u_co_L_turnNow : (Jvm.Cond.codeWith ({ cls := "KitchenSpitsLaw", name := "turnNow", desc := "(LKitchenSpits;I[J)I" } : Jvm.MethodName) method_10_code (4 : Nat) (Option.some Jvm.ClassFile.FieldType.int) [((0 : Nat), (9 : Nat), (12 : Nat), (19 : Nat)), ((0 : Nat), (9 : Nat), (15 : Nat), (13 : Nat))]) ∈ uW := uW_of 549 (by decide +kernel) rfl
theorem u_ml_L_39 : (Jvm.Cond.methodLink "KitchenSpitsLaw" (39 : Nat) ({ cls := "KitchenSpits", name := "turnNow", desc := "(I)I" } : Jvm.MethodName)) ∈ uW := uW_of 550 (by decide +kernel) rfl
theorem u_im_X4_turnNow : (Jvm.Cond.instanceMethod ({ cls := "KitchenSpits", name := "turnNow", desc := "(I)I" } : Jvm.MethodName)) ∈ uW := uW_of 551 (by decide +kernel) rfl
theorem u_se_X4_turnNow : (Jvm.Cond.selects "KitchenSpits" ({ cls := "KitchenSpits", name := "turnNow", desc := "(I)I" } : Jvm.MethodName) ({ cls := "KitchenSpits", name := "turnNow", desc := "(I)I" } : Jvm.MethodName)) ∈ uW := uW_of 552 (by decide +kernel) rfl
theorem u_co_X4_turnNow : (Jvm.Cond.code ({ cls := "KitchenSpits", name := "turnNow", desc := "(I)I" } : Jvm.MethodName) prog_1_method_9_code (3 : Nat) (Option.some Jvm.ClassFile.FieldType.int)) ∈ uW := uW_of 553 (by decide +kernel) rfl
theorem u_ml_X4_90 : (Jvm.Cond.methodLink "KitchenSpits" (90 : Nat) ({ cls := "KitchenSpits", name := "needRoastOf", desc := "(LKitchenSpits$Spit;)LKitchenSpits$Roast;" } : Jvm.MethodName)) ∈ uW := uW_of 554 (by decide +kernel) rfl
theorem u_im_X4_needRoastOf : (Jvm.Cond.instanceMethod ({ cls := "KitchenSpits", name := "needRoastOf", desc := "(LKitchenSpits$Spit;)LKitchenSpits$Roast;" } : Jvm.MethodName)) ∈ uW := uW_of 556 (by decide +kernel) rfl
theorem u_co_X4_needRoastOf : (Jvm.Cond.code ({ cls := "KitchenSpits", name := "needRoastOf", desc := "(LKitchenSpits$Spit;)LKitchenSpits$Roast;" } : Jvm.MethodName) prog_1_method_45_code (3 : Nat) (Option.some (Jvm.ClassFile.FieldType.object "KitchenSpits$Roast"))) ∈ uW := uW_of 557 (by decide +kernel) rfl
theorem u_ml_X4_220 : (Jvm.Cond.methodLink "KitchenSpits" (220 : Nat) ({ cls := "KitchenSpits$Kitchen", name := "roastAt", desc := "(I)LKitchenSpits$Roast;" } : Jvm.MethodName)) ∈ uW := uW_of 558 (by decide +kernel) rfl
theorem u_ml_X4_94 : (Jvm.Cond.methodLink "KitchenSpits" (94 : Nat) ({ cls := "KitchenSpits$Roast", name := "turn", desc := "()V" } : Jvm.MethodName)) ∈ uW := uW_of 560 (by decide +kernel) rfl
theorem u_ml_L_151 : (Jvm.Cond.methodLink "KitchenSpitsLaw" (151 : Nat) ({ cls := "KitchenSpitsLaw", name := "baste", desc := "(LKitchenSpits;I[J)I" } : Jvm.MethodName)) ∈ uW := uW_of 561 (by decide +kernel) rfl
theorem u_st_L_baste : (Jvm.Cond.static ({ cls := "KitchenSpitsLaw", name := "baste", desc := "(LKitchenSpits;I[J)I" } : Jvm.MethodName)) ∈ uW := uW_of 562 (by decide +kernel) rfl
theorem u_co_L_baste : (Jvm.Cond.codeWith ({ cls := "KitchenSpitsLaw", name := "baste", desc := "(LKitchenSpits;I[J)I" } : Jvm.MethodName) method_11_code (4 : Nat) (Option.some Jvm.ClassFile.FieldType.int) [((0 : Nat), (9 : Nat), (12 : Nat), (19 : Nat)), ((0 : Nat), (9 : Nat), (15 : Nat), (13 : Nat))]) ∈ uW := uW_of 563 (by decide +kernel) rfl
theorem u_ml_L_42 : (Jvm.Cond.methodLink "KitchenSpitsLaw" (42 : Nat) ({ cls := "KitchenSpits", name := "baste", desc := "(I)I" } : Jvm.MethodName)) ∈ uW := uW_of 564 (by decide +kernel) rfl
theorem u_im_X4_baste : (Jvm.Cond.instanceMethod ({ cls := "KitchenSpits", name := "baste", desc := "(I)I" } : Jvm.MethodName)) ∈ uW := uW_of 565 (by decide +kernel) rfl
theorem u_se_X4_baste : (Jvm.Cond.selects "KitchenSpits" ({ cls := "KitchenSpits", name := "baste", desc := "(I)I" } : Jvm.MethodName) ({ cls := "KitchenSpits", name := "baste", desc := "(I)I" } : Jvm.MethodName)) ∈ uW := uW_of 566 (by decide +kernel) rfl
theorem u_co_X4_baste : (Jvm.Cond.code ({ cls := "KitchenSpits", name := "baste", desc := "(I)I" } : Jvm.MethodName) prog_1_method_10_code (4 : Nat) (Option.some Jvm.ClassFile.FieldType.int)) ∈ uW := uW_of 567 (by decide +kernel) rfl
theorem u_ml_L_154 : (Jvm.Cond.methodLink "KitchenSpitsLaw" (154 : Nat) ({ cls := "KitchenSpitsLaw", name := "takeDown", desc := "(LKitchenSpits;I[J)I" } : Jvm.MethodName)) ∈ uW := uW_of 569 (by decide +kernel) rfl
theorem u_st_L_takeDown : (Jvm.Cond.static ({ cls := "KitchenSpitsLaw", name := "takeDown", desc := "(LKitchenSpits;I[J)I" } : Jvm.MethodName)) ∈ uW := uW_of 570 (by decide +kernel) rfl
theorem u_co_L_takeDown : (Jvm.Cond.codeWith ({ cls := "KitchenSpitsLaw", name := "takeDown", desc := "(LKitchenSpits;I[J)I" } : Jvm.MethodName) method_12_code (4 : Nat) (Option.some Jvm.ClassFile.FieldType.int) [((0 : Nat), (9 : Nat), (12 : Nat), (19 : Nat)), ((0 : Nat), (9 : Nat), (15 : Nat), (13 : Nat))]) ∈ uW := uW_of 571 (by decide +kernel) rfl
theorem u_ml_L_45 : (Jvm.Cond.methodLink "KitchenSpitsLaw" (45 : Nat) ({ cls := "KitchenSpits", name := "takeDown", desc := "(I)I" } : Jvm.MethodName)) ∈ uW := uW_of 572 (by decide +kernel) rfl
theorem u_im_X4_takeDown : (Jvm.Cond.instanceMethod ({ cls := "KitchenSpits", name := "takeDown", desc := "(I)I" } : Jvm.MethodName)) ∈ uW := uW_of 573 (by decide +kernel) rfl
theorem u_se_X4_takeDown : (Jvm.Cond.selects "KitchenSpits" ({ cls := "KitchenSpits", name := "takeDown", desc := "(I)I" } : Jvm.MethodName) ({ cls := "KitchenSpits", name := "takeDown", desc := "(I)I" } : Jvm.MethodName)) ∈ uW := uW_of 574 (by decide +kernel) rfl
theorem u_co_X4_takeDown : (Jvm.Cond.code ({ cls := "KitchenSpits", name := "takeDown", desc := "(I)I" } : Jvm.MethodName) prog_1_method_11_code (5 : Nat) (Option.some Jvm.ClassFile.FieldType.int)) ∈ uW := uW_of 575 (by decide +kernel) rfl
theorem u_ml_L_157 : (Jvm.Cond.methodLink "KitchenSpitsLaw" (157 : Nat) ({ cls := "KitchenSpitsLaw", name := "emptyPan", desc := "(LKitchenSpits;I[J)I" } : Jvm.MethodName)) ∈ uW := uW_of 576 (by decide +kernel) rfl
theorem u_st_L_emptyPan : (Jvm.Cond.static ({ cls := "KitchenSpitsLaw", name := "emptyPan", desc := "(LKitchenSpits;I[J)I" } : Jvm.MethodName)) ∈ uW := uW_of 577 (by decide +kernel) rfl
theorem u_co_L_emptyPan : (Jvm.Cond.codeWith ({ cls := "KitchenSpitsLaw", name := "emptyPan", desc := "(LKitchenSpits;I[J)I" } : Jvm.MethodName) method_13_code (4 : Nat) (Option.some Jvm.ClassFile.FieldType.int) [((0 : Nat), (9 : Nat), (12 : Nat), (19 : Nat))]) ∈ uW := uW_of 578 (by decide +kernel) rfl
theorem u_ml_L_48 : (Jvm.Cond.methodLink "KitchenSpitsLaw" (48 : Nat) ({ cls := "KitchenSpits", name := "emptyPan", desc := "(I)I" } : Jvm.MethodName)) ∈ uW := uW_of 579 (by decide +kernel) rfl
theorem u_im_X4_emptyPan : (Jvm.Cond.instanceMethod ({ cls := "KitchenSpits", name := "emptyPan", desc := "(I)I" } : Jvm.MethodName)) ∈ uW := uW_of 580 (by decide +kernel) rfl
theorem u_se_X4_emptyPan : (Jvm.Cond.selects "KitchenSpits" ({ cls := "KitchenSpits", name := "emptyPan", desc := "(I)I" } : Jvm.MethodName) ({ cls := "KitchenSpits", name := "emptyPan", desc := "(I)I" } : Jvm.MethodName)) ∈ uW := uW_of 581 (by decide +kernel) rfl
theorem u_co_X4_emptyPan : (Jvm.Cond.code ({ cls := "KitchenSpits", name := "emptyPan", desc := "(I)I" } : Jvm.MethodName) prog_1_method_12_code (4 : Nat) (Option.some Jvm.ClassFile.FieldType.int)) ∈ uW := uW_of 582 (by decide +kernel) rfl
theorem u_ml_L_160 : (Jvm.Cond.methodLink "KitchenSpitsLaw" (160 : Nat) ({ cls := "KitchenSpitsLaw", name := "pass", desc := "(LKitchenSpits;I[J)I" } : Jvm.MethodName)) ∈ uW := uW_of 583 (by decide +kernel) rfl
theorem u_st_L_pass : (Jvm.Cond.static ({ cls := "KitchenSpitsLaw", name := "pass", desc := "(LKitchenSpits;I[J)I" } : Jvm.MethodName)) ∈ uW := uW_of 584 (by decide +kernel) rfl
theorem u_co_L_pass : (Jvm.Cond.codeWith ({ cls := "KitchenSpitsLaw", name := "pass", desc := "(LKitchenSpits;I[J)I" } : Jvm.MethodName) method_14_code (4 : Nat) (Option.some Jvm.ClassFile.FieldType.int) [((0 : Nat), (9 : Nat), (12 : Nat), (21 : Nat))]) ∈ uW := uW_of 585 (by decide +kernel) rfl
theorem u_ml_L_51 : (Jvm.Cond.methodLink "KitchenSpitsLaw" (51 : Nat) ({ cls := "KitchenSpits", name := "pass", desc := "(I)I" } : Jvm.MethodName)) ∈ uW := uW_of 586 (by decide +kernel) rfl
theorem u_im_X4_pass : (Jvm.Cond.instanceMethod ({ cls := "KitchenSpits", name := "pass", desc := "(I)I" } : Jvm.MethodName)) ∈ uW := uW_of 587 (by decide +kernel) rfl
theorem u_se_X4_pass : (Jvm.Cond.selects "KitchenSpits" ({ cls := "KitchenSpits", name := "pass", desc := "(I)I" } : Jvm.MethodName) ({ cls := "KitchenSpits", name := "pass", desc := "(I)I" } : Jvm.MethodName)) ∈ uW := uW_of 588 (by decide +kernel) rfl
theorem u_co_X4_pass : (Jvm.Cond.code ({ cls := "KitchenSpits", name := "pass", desc := "(I)I" } : Jvm.MethodName) prog_1_method_13_code (2 : Nat) (Option.some Jvm.ClassFile.FieldType.int)) ∈ uW := uW_of 589 (by decide +kernel) rfl
theorem u_ml_L_175 : (Jvm.Cond.methodLink "KitchenSpitsLaw" (175 : Nat) ({ cls := "KitchenSpitsLaw", name := "logsOf", desc := "(LKitchenSpits;I[J)I" } : Jvm.MethodName)) ∈ uW := uW_of 591 (by decide +kernel) rfl
theorem u_st_L_logsOf : (Jvm.Cond.static ({ cls := "KitchenSpitsLaw", name := "logsOf", desc := "(LKitchenSpits;I[J)I" } : Jvm.MethodName)) ∈ uW := uW_of 592 (by decide +kernel) rfl
theorem u_co_L_logsOf : (Jvm.Cond.codeWith ({ cls := "KitchenSpitsLaw", name := "logsOf", desc := "(LKitchenSpits;I[J)I" } : Jvm.MethodName) method_15_code (4 : Nat) (Option.some Jvm.ClassFile.FieldType.int) [((0 : Nat), (9 : Nat), (12 : Nat), (19 : Nat))]) ∈ uW := uW_of 593 (by decide +kernel) rfl
theorem u_ml_L_54 : (Jvm.Cond.methodLink "KitchenSpitsLaw" (54 : Nat) ({ cls := "KitchenSpits", name := "logsOf", desc := "(I)I" } : Jvm.MethodName)) ∈ uW := uW_of 594 (by decide +kernel) rfl
theorem u_im_X4_logsOf : (Jvm.Cond.instanceMethod ({ cls := "KitchenSpits", name := "logsOf", desc := "(I)I" } : Jvm.MethodName)) ∈ uW := uW_of 595 (by decide +kernel) rfl
theorem u_se_X4_logsOf : (Jvm.Cond.selects "KitchenSpits" ({ cls := "KitchenSpits", name := "logsOf", desc := "(I)I" } : Jvm.MethodName) ({ cls := "KitchenSpits", name := "logsOf", desc := "(I)I" } : Jvm.MethodName)) ∈ uW := uW_of 596 (by decide +kernel) rfl
theorem u_co_X4_logsOf : (Jvm.Cond.code ({ cls := "KitchenSpits", name := "logsOf", desc := "(I)I" } : Jvm.MethodName) prog_1_method_17_code (2 : Nat) (Option.some Jvm.ClassFile.FieldType.int)) ∈ uW := uW_of 597 (by decide +kernel) rfl
theorem u_ml_L_178 : (Jvm.Cond.methodLink "KitchenSpitsLaw" (178 : Nat) ({ cls := "KitchenSpitsLaw", name := "heatOf", desc := "(LKitchenSpits;I[J)I" } : Jvm.MethodName)) ∈ uW := uW_of 598 (by decide +kernel) rfl
theorem u_st_L_heatOf : (Jvm.Cond.static ({ cls := "KitchenSpitsLaw", name := "heatOf", desc := "(LKitchenSpits;I[J)I" } : Jvm.MethodName)) ∈ uW := uW_of 599 (by decide +kernel) rfl
theorem u_co_L_heatOf : (Jvm.Cond.codeWith ({ cls := "KitchenSpitsLaw", name := "heatOf", desc := "(LKitchenSpits;I[J)I" } : Jvm.MethodName) method_16_code (4 : Nat) (Option.some Jvm.ClassFile.FieldType.int) [((0 : Nat), (9 : Nat), (12 : Nat), (19 : Nat))]) ∈ uW := uW_of 600 (by decide +kernel) rfl
theorem u_ml_L_57 : (Jvm.Cond.methodLink "KitchenSpitsLaw" (57 : Nat) ({ cls := "KitchenSpits", name := "heatOf", desc := "(I)I" } : Jvm.MethodName)) ∈ uW := uW_of 601 (by decide +kernel) rfl
theorem u_im_X4_heatOf : (Jvm.Cond.instanceMethod ({ cls := "KitchenSpits", name := "heatOf", desc := "(I)I" } : Jvm.MethodName)) ∈ uW := uW_of 602 (by decide +kernel) rfl
theorem u_se_X4_heatOf : (Jvm.Cond.selects "KitchenSpits" ({ cls := "KitchenSpits", name := "heatOf", desc := "(I)I" } : Jvm.MethodName) ({ cls := "KitchenSpits", name := "heatOf", desc := "(I)I" } : Jvm.MethodName)) ∈ uW := uW_of 603 (by decide +kernel) rfl
theorem u_co_X4_heatOf : (Jvm.Cond.code ({ cls := "KitchenSpits", name := "heatOf", desc := "(I)I" } : Jvm.MethodName) prog_1_method_18_code (2 : Nat) (Option.some Jvm.ClassFile.FieldType.int)) ∈ uW := uW_of 604 (by decide +kernel) rfl
theorem u_ml_L_185 : (Jvm.Cond.methodLink "KitchenSpitsLaw" (185 : Nat) ({ cls := "KitchenSpitsLaw", name := "fireOf", desc := "(LKitchenSpits;I[J)I" } : Jvm.MethodName)) ∈ uW := uW_of 605 (by decide +kernel) rfl
theorem u_st_L_fireOf : (Jvm.Cond.static ({ cls := "KitchenSpitsLaw", name := "fireOf", desc := "(LKitchenSpits;I[J)I" } : Jvm.MethodName)) ∈ uW := uW_of 606 (by decide +kernel) rfl
theorem u_co_L_fireOf : (Jvm.Cond.codeWith ({ cls := "KitchenSpitsLaw", name := "fireOf", desc := "(LKitchenSpits;I[J)I" } : Jvm.MethodName) method_17_code (4 : Nat) (Option.some Jvm.ClassFile.FieldType.int) [((0 : Nat), (9 : Nat), (12 : Nat), (19 : Nat))]) ∈ uW := uW_of 607 (by decide +kernel) rfl
theorem u_ml_L_60 : (Jvm.Cond.methodLink "KitchenSpitsLaw" (60 : Nat) ({ cls := "KitchenSpits", name := "fireOf", desc := "(I)I" } : Jvm.MethodName)) ∈ uW := uW_of 608 (by decide +kernel) rfl
theorem u_im_X4_fireOf : (Jvm.Cond.instanceMethod ({ cls := "KitchenSpits", name := "fireOf", desc := "(I)I" } : Jvm.MethodName)) ∈ uW := uW_of 609 (by decide +kernel) rfl
theorem u_se_X4_fireOf : (Jvm.Cond.selects "KitchenSpits" ({ cls := "KitchenSpits", name := "fireOf", desc := "(I)I" } : Jvm.MethodName) ({ cls := "KitchenSpits", name := "fireOf", desc := "(I)I" } : Jvm.MethodName)) ∈ uW := uW_of 610 (by decide +kernel) rfl
theorem u_co_X4_fireOf : (Jvm.Cond.code ({ cls := "KitchenSpits", name := "fireOf", desc := "(I)I" } : Jvm.MethodName) prog_1_method_20_code (2 : Nat) (Option.some Jvm.ClassFile.FieldType.int)) ∈ uW := uW_of 611 (by decide +kernel) rfl
theorem u_ml_L_188 : (Jvm.Cond.methodLink "KitchenSpitsLaw" (188 : Nat) ({ cls := "KitchenSpitsLaw", name := "feetOf", desc := "(LKitchenSpits;I[J)I" } : Jvm.MethodName)) ∈ uW := uW_of 612 (by decide +kernel) rfl
theorem u_st_L_feetOf : (Jvm.Cond.static ({ cls := "KitchenSpitsLaw", name := "feetOf", desc := "(LKitchenSpits;I[J)I" } : Jvm.MethodName)) ∈ uW := uW_of 613 (by decide +kernel) rfl
theorem u_co_L_feetOf : (Jvm.Cond.codeWith ({ cls := "KitchenSpitsLaw", name := "feetOf", desc := "(LKitchenSpits;I[J)I" } : Jvm.MethodName) method_18_code (4 : Nat) (Option.some Jvm.ClassFile.FieldType.int) [((0 : Nat), (9 : Nat), (12 : Nat), (19 : Nat))]) ∈ uW := uW_of 614 (by decide +kernel) rfl
theorem u_ml_L_63 : (Jvm.Cond.methodLink "KitchenSpitsLaw" (63 : Nat) ({ cls := "KitchenSpits", name := "feetOf", desc := "(I)I" } : Jvm.MethodName)) ∈ uW := uW_of 615 (by decide +kernel) rfl
theorem u_im_X4_feetOf : (Jvm.Cond.instanceMethod ({ cls := "KitchenSpits", name := "feetOf", desc := "(I)I" } : Jvm.MethodName)) ∈ uW := uW_of 616 (by decide +kernel) rfl
theorem u_se_X4_feetOf : (Jvm.Cond.selects "KitchenSpits" ({ cls := "KitchenSpits", name := "feetOf", desc := "(I)I" } : Jvm.MethodName) ({ cls := "KitchenSpits", name := "feetOf", desc := "(I)I" } : Jvm.MethodName)) ∈ uW := uW_of 617 (by decide +kernel) rfl
theorem u_co_X4_feetOf : (Jvm.Cond.code ({ cls := "KitchenSpits", name := "feetOf", desc := "(I)I" } : Jvm.MethodName) prog_1_method_21_code (2 : Nat) (Option.some Jvm.ClassFile.FieldType.int)) ∈ uW := uW_of 618 (by decide +kernel) rfl
theorem u_ml_L_191 : (Jvm.Cond.methodLink "KitchenSpitsLaw" (191 : Nat) ({ cls := "KitchenSpitsLaw", name := "glowAt", desc := "(LKitchenSpits;I[J)I" } : Jvm.MethodName)) ∈ uW := uW_of 619 (by decide +kernel) rfl
theorem u_st_L_glowAt : (Jvm.Cond.static ({ cls := "KitchenSpitsLaw", name := "glowAt", desc := "(LKitchenSpits;I[J)I" } : Jvm.MethodName)) ∈ uW := uW_of 620 (by decide +kernel) rfl
theorem u_co_L_glowAt : (Jvm.Cond.codeWith ({ cls := "KitchenSpitsLaw", name := "glowAt", desc := "(LKitchenSpits;I[J)I" } : Jvm.MethodName) method_19_code (4 : Nat) (Option.some Jvm.ClassFile.FieldType.int) [((0 : Nat), (9 : Nat), (12 : Nat), (19 : Nat))]) ∈ uW := uW_of 621 (by decide +kernel) rfl
theorem u_ml_L_66 : (Jvm.Cond.methodLink "KitchenSpitsLaw" (66 : Nat) ({ cls := "KitchenSpits", name := "glowAt", desc := "(I)I" } : Jvm.MethodName)) ∈ uW := uW_of 622 (by decide +kernel) rfl
theorem u_im_X4_glowAt : (Jvm.Cond.instanceMethod ({ cls := "KitchenSpits", name := "glowAt", desc := "(I)I" } : Jvm.MethodName)) ∈ uW := uW_of 623 (by decide +kernel) rfl
theorem u_se_X4_glowAt : (Jvm.Cond.selects "KitchenSpits" ({ cls := "KitchenSpits", name := "glowAt", desc := "(I)I" } : Jvm.MethodName) ({ cls := "KitchenSpits", name := "glowAt", desc := "(I)I" } : Jvm.MethodName)) ∈ uW := uW_of 624 (by decide +kernel) rfl
theorem u_co_X4_glowAt : (Jvm.Cond.code ({ cls := "KitchenSpits", name := "glowAt", desc := "(I)I" } : Jvm.MethodName) prog_1_method_22_code (2 : Nat) (Option.some Jvm.ClassFile.FieldType.int)) ∈ uW := uW_of 625 (by decide +kernel) rfl
theorem u_ml_L_194 : (Jvm.Cond.methodLink "KitchenSpitsLaw" (194 : Nat) ({ cls := "KitchenSpitsLaw", name := "turnedEach", desc := "(LKitchenSpits;I[J)I" } : Jvm.MethodName)) ∈ uW := uW_of 626 (by decide +kernel) rfl
theorem u_st_L_turnedEach : (Jvm.Cond.static ({ cls := "KitchenSpitsLaw", name := "turnedEach", desc := "(LKitchenSpits;I[J)I" } : Jvm.MethodName)) ∈ uW := uW_of 627 (by decide +kernel) rfl
theorem u_co_L_turnedEach : (Jvm.Cond.codeWith ({ cls := "KitchenSpitsLaw", name := "turnedEach", desc := "(LKitchenSpits;I[J)I" } : Jvm.MethodName) method_20_code (4 : Nat) (Option.some Jvm.ClassFile.FieldType.int) [((0 : Nat), (9 : Nat), (12 : Nat), (19 : Nat))]) ∈ uW := uW_of 628 (by decide +kernel) rfl
theorem u_ml_L_69 : (Jvm.Cond.methodLink "KitchenSpitsLaw" (69 : Nat) ({ cls := "KitchenSpits", name := "turnedEach", desc := "(I)I" } : Jvm.MethodName)) ∈ uW := uW_of 629 (by decide +kernel) rfl
theorem u_im_X4_turnedEach : (Jvm.Cond.instanceMethod ({ cls := "KitchenSpits", name := "turnedEach", desc := "(I)I" } : Jvm.MethodName)) ∈ uW := uW_of 630 (by decide +kernel) rfl
theorem u_se_X4_turnedEach : (Jvm.Cond.selects "KitchenSpits" ({ cls := "KitchenSpits", name := "turnedEach", desc := "(I)I" } : Jvm.MethodName) ({ cls := "KitchenSpits", name := "turnedEach", desc := "(I)I" } : Jvm.MethodName)) ∈ uW := uW_of 631 (by decide +kernel) rfl
theorem u_co_X4_turnedEach : (Jvm.Cond.code ({ cls := "KitchenSpits", name := "turnedEach", desc := "(I)I" } : Jvm.MethodName) prog_1_method_23_code (2 : Nat) (Option.some Jvm.ClassFile.FieldType.int)) ∈ uW := uW_of 632 (by decide +kernel) rfl
theorem u_ml_L_197 : (Jvm.Cond.methodLink "KitchenSpitsLaw" (197 : Nat) ({ cls := "KitchenSpitsLaw", name := "drippingsOf", desc := "(LKitchenSpits;I[J)I" } : Jvm.MethodName)) ∈ uW := uW_of 633 (by decide +kernel) rfl
theorem u_st_L_drippingsOf : (Jvm.Cond.static ({ cls := "KitchenSpitsLaw", name := "drippingsOf", desc := "(LKitchenSpits;I[J)I" } : Jvm.MethodName)) ∈ uW := uW_of 634 (by decide +kernel) rfl
theorem u_co_L_drippingsOf : (Jvm.Cond.codeWith ({ cls := "KitchenSpitsLaw", name := "drippingsOf", desc := "(LKitchenSpits;I[J)I" } : Jvm.MethodName) method_21_code (4 : Nat) (Option.some Jvm.ClassFile.FieldType.int) [((0 : Nat), (9 : Nat), (12 : Nat), (19 : Nat))]) ∈ uW := uW_of 635 (by decide +kernel) rfl
theorem u_ml_L_72 : (Jvm.Cond.methodLink "KitchenSpitsLaw" (72 : Nat) ({ cls := "KitchenSpits", name := "drippingsOf", desc := "(I)I" } : Jvm.MethodName)) ∈ uW := uW_of 636 (by decide +kernel) rfl
theorem u_im_X4_drippingsOf : (Jvm.Cond.instanceMethod ({ cls := "KitchenSpits", name := "drippingsOf", desc := "(I)I" } : Jvm.MethodName)) ∈ uW := uW_of 637 (by decide +kernel) rfl
theorem u_se_X4_drippingsOf : (Jvm.Cond.selects "KitchenSpits" ({ cls := "KitchenSpits", name := "drippingsOf", desc := "(I)I" } : Jvm.MethodName) ({ cls := "KitchenSpits", name := "drippingsOf", desc := "(I)I" } : Jvm.MethodName)) ∈ uW := uW_of 638 (by decide +kernel) rfl
theorem u_co_X4_drippingsOf : (Jvm.Cond.code ({ cls := "KitchenSpits", name := "drippingsOf", desc := "(I)I" } : Jvm.MethodName) prog_1_method_24_code (2 : Nat) (Option.some Jvm.ClassFile.FieldType.int)) ∈ uW := uW_of 639 (by decide +kernel) rfl
theorem u_ml_L_200 : (Jvm.Cond.methodLink "KitchenSpitsLaw" (200 : Nat) ({ cls := "KitchenSpitsLaw", name := "roastOn", desc := "(LKitchenSpits;I[J)I" } : Jvm.MethodName)) ∈ uW := uW_of 640 (by decide +kernel) rfl
theorem u_st_L_roastOn : (Jvm.Cond.static ({ cls := "KitchenSpitsLaw", name := "roastOn", desc := "(LKitchenSpits;I[J)I" } : Jvm.MethodName)) ∈ uW := uW_of 641 (by decide +kernel) rfl
theorem u_co_L_roastOn : (Jvm.Cond.codeWith ({ cls := "KitchenSpitsLaw", name := "roastOn", desc := "(LKitchenSpits;I[J)I" } : Jvm.MethodName) method_22_code (4 : Nat) (Option.some Jvm.ClassFile.FieldType.int) [((0 : Nat), (9 : Nat), (12 : Nat), (19 : Nat))]) ∈ uW := uW_of 642 (by decide +kernel) rfl
theorem u_ml_L_75 : (Jvm.Cond.methodLink "KitchenSpitsLaw" (75 : Nat) ({ cls := "KitchenSpits", name := "roastOn", desc := "(I)I" } : Jvm.MethodName)) ∈ uW := uW_of 643 (by decide +kernel) rfl
theorem u_im_X4_roastOn : (Jvm.Cond.instanceMethod ({ cls := "KitchenSpits", name := "roastOn", desc := "(I)I" } : Jvm.MethodName)) ∈ uW := uW_of 644 (by decide +kernel) rfl
theorem u_se_X4_roastOn : (Jvm.Cond.selects "KitchenSpits" ({ cls := "KitchenSpits", name := "roastOn", desc := "(I)I" } : Jvm.MethodName) ({ cls := "KitchenSpits", name := "roastOn", desc := "(I)I" } : Jvm.MethodName)) ∈ uW := uW_of 645 (by decide +kernel) rfl
theorem u_co_X4_roastOn : (Jvm.Cond.code ({ cls := "KitchenSpits", name := "roastOn", desc := "(I)I" } : Jvm.MethodName) prog_1_method_25_code (2 : Nat) (Option.some Jvm.ClassFile.FieldType.int)) ∈ uW := uW_of 646 (by decide +kernel) rfl
theorem u_ml_L_207 : (Jvm.Cond.methodLink "KitchenSpitsLaw" (207 : Nat) ({ cls := "KitchenSpitsLaw", name := "poundsOf", desc := "(LKitchenSpits;I[J)I" } : Jvm.MethodName)) ∈ uW := uW_of 647 (by decide +kernel) rfl
theorem u_st_L_poundsOf : (Jvm.Cond.static ({ cls := "KitchenSpitsLaw", name := "poundsOf", desc := "(LKitchenSpits;I[J)I" } : Jvm.MethodName)) ∈ uW := uW_of 648 (by decide +kernel) rfl
theorem u_co_L_poundsOf : (Jvm.Cond.codeWith ({ cls := "KitchenSpitsLaw", name := "poundsOf", desc := "(LKitchenSpits;I[J)I" } : Jvm.MethodName) method_23_code (4 : Nat) (Option.some Jvm.ClassFile.FieldType.int) [((0 : Nat), (9 : Nat), (12 : Nat), (19 : Nat))]) ∈ uW := uW_of 649 (by decide +kernel) rfl
theorem u_ml_L_78 : (Jvm.Cond.methodLink "KitchenSpitsLaw" (78 : Nat) ({ cls := "KitchenSpits", name := "poundsOf", desc := "(I)I" } : Jvm.MethodName)) ∈ uW := uW_of 650 (by decide +kernel) rfl
theorem u_im_X4_poundsOf : (Jvm.Cond.instanceMethod ({ cls := "KitchenSpits", name := "poundsOf", desc := "(I)I" } : Jvm.MethodName)) ∈ uW := uW_of 651 (by decide +kernel) rfl
theorem u_se_X4_poundsOf : (Jvm.Cond.selects "KitchenSpits" ({ cls := "KitchenSpits", name := "poundsOf", desc := "(I)I" } : Jvm.MethodName) ({ cls := "KitchenSpits", name := "poundsOf", desc := "(I)I" } : Jvm.MethodName)) ∈ uW := uW_of 652 (by decide +kernel) rfl
theorem u_co_X4_poundsOf : (Jvm.Cond.code ({ cls := "KitchenSpits", name := "poundsOf", desc := "(I)I" } : Jvm.MethodName) prog_1_method_27_code (2 : Nat) (Option.some Jvm.ClassFile.FieldType.int)) ∈ uW := uW_of 653 (by decide +kernel) rfl
theorem u_ml_X4_144 : (Jvm.Cond.methodLink "KitchenSpits" (144 : Nat) ({ cls := "KitchenSpits", name := "needRoast", desc := "(I)LKitchenSpits$Roast;" } : Jvm.MethodName)) ∈ uW := uW_of 654 (by decide +kernel) rfl
theorem u_im_X4_needRoast : (Jvm.Cond.instanceMethod ({ cls := "KitchenSpits", name := "needRoast", desc := "(I)LKitchenSpits$Roast;" } : Jvm.MethodName)) ∈ uW := uW_of 656 (by decide +kernel) rfl
theorem u_co_X4_needRoast : (Jvm.Cond.code ({ cls := "KitchenSpits", name := "needRoast", desc := "(I)LKitchenSpits$Roast;" } : Jvm.MethodName) prog_1_method_44_code (3 : Nat) (Option.some (Jvm.ClassFile.FieldType.object "KitchenSpits$Roast"))) ∈ uW := uW_of 657 (by decide +kernel) rfl
theorem u_ml_L_210 : (Jvm.Cond.methodLink "KitchenSpitsLaw" (210 : Nat) ({ cls := "KitchenSpitsLaw", name := "spitOf", desc := "(LKitchenSpits;I[J)I" } : Jvm.MethodName)) ∈ uW := uW_of 659 (by decide +kernel) rfl
theorem u_st_L_spitOf : (Jvm.Cond.static ({ cls := "KitchenSpitsLaw", name := "spitOf", desc := "(LKitchenSpits;I[J)I" } : Jvm.MethodName)) ∈ uW := uW_of 660 (by decide +kernel) rfl
theorem u_co_L_spitOf : (Jvm.Cond.codeWith ({ cls := "KitchenSpitsLaw", name := "spitOf", desc := "(LKitchenSpits;I[J)I" } : Jvm.MethodName) method_24_code (4 : Nat) (Option.some Jvm.ClassFile.FieldType.int) [((0 : Nat), (9 : Nat), (12 : Nat), (19 : Nat))]) ∈ uW := uW_of 661 (by decide +kernel) rfl
theorem u_ml_L_81 : (Jvm.Cond.methodLink "KitchenSpitsLaw" (81 : Nat) ({ cls := "KitchenSpits", name := "spitOf", desc := "(I)I" } : Jvm.MethodName)) ∈ uW := uW_of 662 (by decide +kernel) rfl
theorem u_im_X4_spitOf : (Jvm.Cond.instanceMethod ({ cls := "KitchenSpits", name := "spitOf", desc := "(I)I" } : Jvm.MethodName)) ∈ uW := uW_of 663 (by decide +kernel) rfl
theorem u_se_X4_spitOf : (Jvm.Cond.selects "KitchenSpits" ({ cls := "KitchenSpits", name := "spitOf", desc := "(I)I" } : Jvm.MethodName) ({ cls := "KitchenSpits", name := "spitOf", desc := "(I)I" } : Jvm.MethodName)) ∈ uW := uW_of 664 (by decide +kernel) rfl
theorem u_co_X4_spitOf : (Jvm.Cond.code ({ cls := "KitchenSpits", name := "spitOf", desc := "(I)I" } : Jvm.MethodName) prog_1_method_28_code (2 : Nat) (Option.some Jvm.ClassFile.FieldType.int)) ∈ uW := uW_of 665 (by decide +kernel) rfl
theorem u_ml_L_213 : (Jvm.Cond.methodLink "KitchenSpitsLaw" (213 : Nat) ({ cls := "KitchenSpitsLaw", name := "sideToFire", desc := "(LKitchenSpits;I[J)I" } : Jvm.MethodName)) ∈ uW := uW_of 666 (by decide +kernel) rfl
theorem u_st_L_sideToFire : (Jvm.Cond.static ({ cls := "KitchenSpitsLaw", name := "sideToFire", desc := "(LKitchenSpits;I[J)I" } : Jvm.MethodName)) ∈ uW := uW_of 667 (by decide +kernel) rfl
theorem u_co_L_sideToFire : (Jvm.Cond.codeWith ({ cls := "KitchenSpitsLaw", name := "sideToFire", desc := "(LKitchenSpits;I[J)I" } : Jvm.MethodName) method_25_code (4 : Nat) (Option.some Jvm.ClassFile.FieldType.int) [((0 : Nat), (9 : Nat), (12 : Nat), (19 : Nat))]) ∈ uW := uW_of 668 (by decide +kernel) rfl
theorem u_ml_L_84 : (Jvm.Cond.methodLink "KitchenSpitsLaw" (84 : Nat) ({ cls := "KitchenSpits", name := "sideToFire", desc := "(I)I" } : Jvm.MethodName)) ∈ uW := uW_of 669 (by decide +kernel) rfl
theorem u_im_X4_sideToFire : (Jvm.Cond.instanceMethod ({ cls := "KitchenSpits", name := "sideToFire", desc := "(I)I" } : Jvm.MethodName)) ∈ uW := uW_of 670 (by decide +kernel) rfl
theorem u_se_X4_sideToFire : (Jvm.Cond.selects "KitchenSpits" ({ cls := "KitchenSpits", name := "sideToFire", desc := "(I)I" } : Jvm.MethodName) ({ cls := "KitchenSpits", name := "sideToFire", desc := "(I)I" } : Jvm.MethodName)) ∈ uW := uW_of 671 (by decide +kernel) rfl
theorem u_co_X4_sideToFire : (Jvm.Cond.code ({ cls := "KitchenSpits", name := "sideToFire", desc := "(I)I" } : Jvm.MethodName) prog_1_method_29_code (2 : Nat) (Option.some Jvm.ClassFile.FieldType.int)) ∈ uW := uW_of 672 (by decide +kernel) rfl
theorem u_ml_L_216 : (Jvm.Cond.methodLink "KitchenSpitsLaw" (216 : Nat) ({ cls := "KitchenSpitsLaw", name := "brownOf", desc := "(LKitchenSpits;II[J)I" } : Jvm.MethodName)) ∈ uW := uW_of 673 (by decide +kernel) rfl
theorem u_st_L_brownOf : (Jvm.Cond.static ({ cls := "KitchenSpitsLaw", name := "brownOf", desc := "(LKitchenSpits;II[J)I" } : Jvm.MethodName)) ∈ uW := uW_of 674 (by decide +kernel) rfl
theorem u_co_L_brownOf : (Jvm.Cond.codeWith ({ cls := "KitchenSpitsLaw", name := "brownOf", desc := "(LKitchenSpits;II[J)I" } : Jvm.MethodName) method_26_code (5 : Nat) (Option.some Jvm.ClassFile.FieldType.int) [((0 : Nat), (10 : Nat), (13 : Nat), (19 : Nat))]) ∈ uW := uW_of 675 (by decide +kernel) rfl
theorem u_ml_L_87 : (Jvm.Cond.methodLink "KitchenSpitsLaw" (87 : Nat) ({ cls := "KitchenSpits", name := "brownOf", desc := "(II)I" } : Jvm.MethodName)) ∈ uW := uW_of 676 (by decide +kernel) rfl
theorem u_im_X4_brownOf : (Jvm.Cond.instanceMethod ({ cls := "KitchenSpits", name := "brownOf", desc := "(II)I" } : Jvm.MethodName)) ∈ uW := uW_of 677 (by decide +kernel) rfl
theorem u_se_X4_brownOf : (Jvm.Cond.selects "KitchenSpits" ({ cls := "KitchenSpits", name := "brownOf", desc := "(II)I" } : Jvm.MethodName) ({ cls := "KitchenSpits", name := "brownOf", desc := "(II)I" } : Jvm.MethodName)) ∈ uW := uW_of 678 (by decide +kernel) rfl
theorem u_co_X4_brownOf : (Jvm.Cond.code ({ cls := "KitchenSpits", name := "brownOf", desc := "(II)I" } : Jvm.MethodName) prog_1_method_30_code (4 : Nat) (Option.some Jvm.ClassFile.FieldType.int)) ∈ uW := uW_of 679 (by decide +kernel) rfl
theorem u_ml_L_219 : (Jvm.Cond.methodLink "KitchenSpitsLaw" (219 : Nat) ({ cls := "KitchenSpitsLaw", name := "fatOf", desc := "(LKitchenSpits;I[J)I" } : Jvm.MethodName)) ∈ uW := uW_of 681 (by decide +kernel) rfl
theorem u_st_L_fatOf : (Jvm.Cond.static ({ cls := "KitchenSpitsLaw", name := "fatOf", desc := "(LKitchenSpits;I[J)I" } : Jvm.MethodName)) ∈ uW := uW_of 682 (by decide +kernel) rfl
theorem u_co_L_fatOf : (Jvm.Cond.codeWith ({ cls := "KitchenSpitsLaw", name := "fatOf", desc := "(LKitchenSpits;I[J)I" } : Jvm.MethodName) method_27_code (4 : Nat) (Option.some Jvm.ClassFile.FieldType.int) [((0 : Nat), (9 : Nat), (12 : Nat), (19 : Nat))]) ∈ uW := uW_of 683 (by decide +kernel) rfl
theorem u_ml_L_90 : (Jvm.Cond.methodLink "KitchenSpitsLaw" (90 : Nat) ({ cls := "KitchenSpits", name := "fatOf", desc := "(I)I" } : Jvm.MethodName)) ∈ uW := uW_of 684 (by decide +kernel) rfl
theorem u_im_X4_fatOf : (Jvm.Cond.instanceMethod ({ cls := "KitchenSpits", name := "fatOf", desc := "(I)I" } : Jvm.MethodName)) ∈ uW := uW_of 685 (by decide +kernel) rfl
theorem u_se_X4_fatOf : (Jvm.Cond.selects "KitchenSpits" ({ cls := "KitchenSpits", name := "fatOf", desc := "(I)I" } : Jvm.MethodName) ({ cls := "KitchenSpits", name := "fatOf", desc := "(I)I" } : Jvm.MethodName)) ∈ uW := uW_of 686 (by decide +kernel) rfl
theorem u_co_X4_fatOf : (Jvm.Cond.code ({ cls := "KitchenSpits", name := "fatOf", desc := "(I)I" } : Jvm.MethodName) prog_1_method_31_code (2 : Nat) (Option.some Jvm.ClassFile.FieldType.int)) ∈ uW := uW_of 687 (by decide +kernel) rfl
theorem u_ml_L_222 : (Jvm.Cond.methodLink "KitchenSpitsLaw" (222 : Nat) ({ cls := "KitchenSpitsLaw", name := "wetFor", desc := "(LKitchenSpits;I[J)I" } : Jvm.MethodName)) ∈ uW := uW_of 688 (by decide +kernel) rfl
theorem u_st_L_wetFor : (Jvm.Cond.static ({ cls := "KitchenSpitsLaw", name := "wetFor", desc := "(LKitchenSpits;I[J)I" } : Jvm.MethodName)) ∈ uW := uW_of 689 (by decide +kernel) rfl
theorem u_co_L_wetFor : (Jvm.Cond.codeWith ({ cls := "KitchenSpitsLaw", name := "wetFor", desc := "(LKitchenSpits;I[J)I" } : Jvm.MethodName) method_28_code (4 : Nat) (Option.some Jvm.ClassFile.FieldType.int) [((0 : Nat), (9 : Nat), (12 : Nat), (19 : Nat))]) ∈ uW := uW_of 690 (by decide +kernel) rfl
theorem u_ml_L_93 : (Jvm.Cond.methodLink "KitchenSpitsLaw" (93 : Nat) ({ cls := "KitchenSpits", name := "wetFor", desc := "(I)I" } : Jvm.MethodName)) ∈ uW := uW_of 691 (by decide +kernel) rfl
theorem u_im_X4_wetFor : (Jvm.Cond.instanceMethod ({ cls := "KitchenSpits", name := "wetFor", desc := "(I)I" } : Jvm.MethodName)) ∈ uW := uW_of 692 (by decide +kernel) rfl
theorem u_se_X4_wetFor : (Jvm.Cond.selects "KitchenSpits" ({ cls := "KitchenSpits", name := "wetFor", desc := "(I)I" } : Jvm.MethodName) ({ cls := "KitchenSpits", name := "wetFor", desc := "(I)I" } : Jvm.MethodName)) ∈ uW := uW_of 693 (by decide +kernel) rfl
theorem u_co_X4_wetFor : (Jvm.Cond.code ({ cls := "KitchenSpits", name := "wetFor", desc := "(I)I" } : Jvm.MethodName) prog_1_method_32_code (2 : Nat) (Option.some Jvm.ClassFile.FieldType.int)) ∈ uW := uW_of 694 (by decide +kernel) rfl
theorem u_ml_L_225 : (Jvm.Cond.methodLink "KitchenSpitsLaw" (225 : Nat) ({ cls := "KitchenSpitsLaw", name := "isDone", desc := "(LKitchenSpits;I[J)I" } : Jvm.MethodName)) ∈ uW := uW_of 695 (by decide +kernel) rfl
theorem u_st_L_isDone : (Jvm.Cond.static ({ cls := "KitchenSpitsLaw", name := "isDone", desc := "(LKitchenSpits;I[J)I" } : Jvm.MethodName)) ∈ uW := uW_of 696 (by decide +kernel) rfl
theorem u_co_L_isDone : (Jvm.Cond.codeWith ({ cls := "KitchenSpitsLaw", name := "isDone", desc := "(LKitchenSpits;I[J)I" } : Jvm.MethodName) method_29_code (4 : Nat) (Option.some Jvm.ClassFile.FieldType.int) [((0 : Nat), (16 : Nat), (19 : Nat), (19 : Nat))]) ∈ uW := uW_of 697 (by decide +kernel) rfl
theorem u_ml_L_96 : (Jvm.Cond.methodLink "KitchenSpitsLaw" (96 : Nat) ({ cls := "KitchenSpits", name := "isDone", desc := "(I)Z" } : Jvm.MethodName)) ∈ uW := uW_of 698 (by decide +kernel) rfl
theorem u_im_X4_isDone : (Jvm.Cond.instanceMethod ({ cls := "KitchenSpits", name := "isDone", desc := "(I)Z" } : Jvm.MethodName)) ∈ uW := uW_of 699 (by decide +kernel) rfl
theorem u_se_X4_isDone : (Jvm.Cond.selects "KitchenSpits" ({ cls := "KitchenSpits", name := "isDone", desc := "(I)Z" } : Jvm.MethodName) ({ cls := "KitchenSpits", name := "isDone", desc := "(I)Z" } : Jvm.MethodName)) ∈ uW := uW_of 700 (by decide +kernel) rfl
theorem u_co_X4_isDone : (Jvm.Cond.code ({ cls := "KitchenSpits", name := "isDone", desc := "(I)Z" } : Jvm.MethodName) prog_1_method_33_code (2 : Nat) (Option.some Jvm.ClassFile.FieldType.boolean)) ∈ uW := uW_of 701 (by decide +kernel) rfl
theorem u_ml_L_228 : (Jvm.Cond.methodLink "KitchenSpitsLaw" (228 : Nat) ({ cls := "KitchenSpitsLaw", name := "isBurnt", desc := "(LKitchenSpits;I[J)I" } : Jvm.MethodName)) ∈ uW := uW_of 702 (by decide +kernel) rfl
theorem u_st_L_isBurnt : (Jvm.Cond.static ({ cls := "KitchenSpitsLaw", name := "isBurnt", desc := "(LKitchenSpits;I[J)I" } : Jvm.MethodName)) ∈ uW := uW_of 703 (by decide +kernel) rfl
theorem u_co_L_isBurnt : (Jvm.Cond.codeWith ({ cls := "KitchenSpitsLaw", name := "isBurnt", desc := "(LKitchenSpits;I[J)I" } : Jvm.MethodName) method_30_code (4 : Nat) (Option.some Jvm.ClassFile.FieldType.int) [((0 : Nat), (16 : Nat), (19 : Nat), (19 : Nat))]) ∈ uW := uW_of 704 (by decide +kernel) rfl
theorem u_ml_L_100 : (Jvm.Cond.methodLink "KitchenSpitsLaw" (100 : Nat) ({ cls := "KitchenSpits", name := "isBurnt", desc := "(I)Z" } : Jvm.MethodName)) ∈ uW := uW_of 705 (by decide +kernel) rfl
theorem u_im_X4_isBurnt : (Jvm.Cond.instanceMethod ({ cls := "KitchenSpits", name := "isBurnt", desc := "(I)Z" } : Jvm.MethodName)) ∈ uW := uW_of 706 (by decide +kernel) rfl
theorem u_se_X4_isBurnt : (Jvm.Cond.selects "KitchenSpits" ({ cls := "KitchenSpits", name := "isBurnt", desc := "(I)Z" } : Jvm.MethodName) ({ cls := "KitchenSpits", name := "isBurnt", desc := "(I)Z" } : Jvm.MethodName)) ∈ uW := uW_of 707 (by decide +kernel) rfl
theorem u_co_X4_isBurnt : (Jvm.Cond.code ({ cls := "KitchenSpits", name := "isBurnt", desc := "(I)Z" } : Jvm.MethodName) prog_1_method_34_code (2 : Nat) (Option.some Jvm.ClassFile.FieldType.boolean)) ∈ uW := uW_of 708 (by decide +kernel) rfl
theorem u_ml_L_231 : (Jvm.Cond.methodLink "KitchenSpitsLaw" (231 : Nat) ({ cls := "KitchenSpitsLaw", name := "minutesUntilDone", desc := "(LKitchenSpits;I[J)I" } : Jvm.MethodName)) ∈ uW := uW_of 709 (by decide +kernel) rfl
theorem u_st_L_minutesUntilDone : (Jvm.Cond.static ({ cls := "KitchenSpitsLaw", name := "minutesUntilDone", desc := "(LKitchenSpits;I[J)I" } : Jvm.MethodName)) ∈ uW := uW_of 710 (by decide +kernel) rfl
theorem u_co_L_minutesUntilDone : (Jvm.Cond.codeWith ({ cls := "KitchenSpitsLaw", name := "minutesUntilDone", desc := "(LKitchenSpits;I[J)I" } : Jvm.MethodName) method_31_code (4 : Nat) (Option.some Jvm.ClassFile.FieldType.int) [((0 : Nat), (9 : Nat), (12 : Nat), (19 : Nat))]) ∈ uW := uW_of 711 (by decide +kernel) rfl
theorem u_ml_L_103 : (Jvm.Cond.methodLink "KitchenSpitsLaw" (103 : Nat) ({ cls := "KitchenSpits", name := "minutesUntilDone", desc := "(I)I" } : Jvm.MethodName)) ∈ uW := uW_of 712 (by decide +kernel) rfl
theorem u_im_X4_minutesUntilDone : (Jvm.Cond.instanceMethod ({ cls := "KitchenSpits", name := "minutesUntilDone", desc := "(I)I" } : Jvm.MethodName)) ∈ uW := uW_of 713 (by decide +kernel) rfl
theorem u_se_X4_minutesUntilDone : (Jvm.Cond.selects "KitchenSpits" ({ cls := "KitchenSpits", name := "minutesUntilDone", desc := "(I)I" } : Jvm.MethodName) ({ cls := "KitchenSpits", name := "minutesUntilDone", desc := "(I)I" } : Jvm.MethodName)) ∈ uW := uW_of 714 (by decide +kernel) rfl
theorem u_co_X4_minutesUntilDone : (Jvm.Cond.code ({ cls := "KitchenSpits", name := "minutesUntilDone", desc := "(I)I" } : Jvm.MethodName) prog_1_method_35_code (2 : Nat) (Option.some Jvm.ClassFile.FieldType.int)) ∈ uW := uW_of 715 (by decide +kernel) rfl
theorem u_ml_X4_174 : (Jvm.Cond.methodLink "KitchenSpits" (174 : Nat) ({ cls := "KitchenSpits", name := "aheadUntilDone", desc := "(I)I" } : Jvm.MethodName)) ∈ uW := uW_of 716 (by decide +kernel) rfl
theorem u_im_X4_aheadUntilDone : (Jvm.Cond.instanceMethod ({ cls := "KitchenSpits", name := "aheadUntilDone", desc := "(I)I" } : Jvm.MethodName)) ∈ uW := uW_of 718 (by decide +kernel) rfl
theorem u_co_X4_aheadUntilDone : (Jvm.Cond.code ({ cls := "KitchenSpits", name := "aheadUntilDone", desc := "(I)I" } : Jvm.MethodName) prog_1_method_48_code (4 : Nat) (Option.some Jvm.ClassFile.FieldType.int)) ∈ uW := uW_of 719 (by decide +kernel) rfl
theorem u_ml_X4_231 : (Jvm.Cond.methodLink "KitchenSpits" (231 : Nat) ({ cls := "KitchenSpits$Kitchen", name := "goMinute", desc := "()I" } : Jvm.MethodName)) ∈ uW := uW_of 720 (by decide +kernel) rfl
theorem u_ml_L_234 : (Jvm.Cond.methodLink "KitchenSpitsLaw" (234 : Nat) ({ cls := "KitchenSpitsLaw", name := "minutesUntilBurnt", desc := "(LKitchenSpits;I[J)I" } : Jvm.MethodName)) ∈ uW := uW_of 721 (by decide +kernel) rfl
theorem u_st_L_minutesUntilBurnt : (Jvm.Cond.static ({ cls := "KitchenSpitsLaw", name := "minutesUntilBurnt", desc := "(LKitchenSpits;I[J)I" } : Jvm.MethodName)) ∈ uW := uW_of 722 (by decide +kernel) rfl
theorem u_co_L_minutesUntilBurnt : (Jvm.Cond.codeWith ({ cls := "KitchenSpitsLaw", name := "minutesUntilBurnt", desc := "(LKitchenSpits;I[J)I" } : Jvm.MethodName) method_32_code (4 : Nat) (Option.some Jvm.ClassFile.FieldType.int) [((0 : Nat), (9 : Nat), (12 : Nat), (19 : Nat))]) ∈ uW := uW_of 723 (by decide +kernel) rfl
theorem u_ml_L_106 : (Jvm.Cond.methodLink "KitchenSpitsLaw" (106 : Nat) ({ cls := "KitchenSpits", name := "minutesUntilBurnt", desc := "(I)I" } : Jvm.MethodName)) ∈ uW := uW_of 724 (by decide +kernel) rfl
theorem u_im_X4_minutesUntilBurnt : (Jvm.Cond.instanceMethod ({ cls := "KitchenSpits", name := "minutesUntilBurnt", desc := "(I)I" } : Jvm.MethodName)) ∈ uW := uW_of 725 (by decide +kernel) rfl
theorem u_se_X4_minutesUntilBurnt : (Jvm.Cond.selects "KitchenSpits" ({ cls := "KitchenSpits", name := "minutesUntilBurnt", desc := "(I)I" } : Jvm.MethodName) ({ cls := "KitchenSpits", name := "minutesUntilBurnt", desc := "(I)I" } : Jvm.MethodName)) ∈ uW := uW_of 726 (by decide +kernel) rfl
theorem u_co_X4_minutesUntilBurnt : (Jvm.Cond.code ({ cls := "KitchenSpits", name := "minutesUntilBurnt", desc := "(I)I" } : Jvm.MethodName) prog_1_method_36_code (2 : Nat) (Option.some Jvm.ClassFile.FieldType.int)) ∈ uW := uW_of 727 (by decide +kernel) rfl
theorem u_ml_X4_177 : (Jvm.Cond.methodLink "KitchenSpits" (177 : Nat) ({ cls := "KitchenSpits", name := "aheadUntilBurnt", desc := "(I)I" } : Jvm.MethodName)) ∈ uW := uW_of 728 (by decide +kernel) rfl
theorem u_im_X4_aheadUntilBurnt : (Jvm.Cond.instanceMethod ({ cls := "KitchenSpits", name := "aheadUntilBurnt", desc := "(I)I" } : Jvm.MethodName)) ∈ uW := uW_of 730 (by decide +kernel) rfl
theorem u_co_X4_aheadUntilBurnt : (Jvm.Cond.code ({ cls := "KitchenSpits", name := "aheadUntilBurnt", desc := "(I)I" } : Jvm.MethodName) prog_1_method_49_code (4 : Nat) (Option.some Jvm.ClassFile.FieldType.int)) ∈ uW := uW_of 731 (by decide +kernel) rfl
theorem u_ml_L_241 : (Jvm.Cond.methodLink "KitchenSpitsLaw" (241 : Nat) ({ cls := "KitchenSpitsLaw", name := "bestEach", desc := "(LKitchenSpits;I[J)I" } : Jvm.MethodName)) ∈ uW := uW_of 732 (by decide +kernel) rfl
theorem u_st_L_bestEach : (Jvm.Cond.static ({ cls := "KitchenSpitsLaw", name := "bestEach", desc := "(LKitchenSpits;I[J)I" } : Jvm.MethodName)) ∈ uW := uW_of 733 (by decide +kernel) rfl
theorem u_co_L_bestEach : (Jvm.Cond.codeWith ({ cls := "KitchenSpitsLaw", name := "bestEach", desc := "(LKitchenSpits;I[J)I" } : Jvm.MethodName) method_33_code (4 : Nat) (Option.some Jvm.ClassFile.FieldType.int) [((0 : Nat), (9 : Nat), (12 : Nat), (19 : Nat))]) ∈ uW := uW_of 734 (by decide +kernel) rfl
theorem u_ml_L_109 : (Jvm.Cond.methodLink "KitchenSpitsLaw" (109 : Nat) ({ cls := "KitchenSpits", name := "bestEach", desc := "(I)I" } : Jvm.MethodName)) ∈ uW := uW_of 735 (by decide +kernel) rfl
theorem u_im_X4_bestEach : (Jvm.Cond.instanceMethod ({ cls := "KitchenSpits", name := "bestEach", desc := "(I)I" } : Jvm.MethodName)) ∈ uW := uW_of 736 (by decide +kernel) rfl
theorem u_se_X4_bestEach : (Jvm.Cond.selects "KitchenSpits" ({ cls := "KitchenSpits", name := "bestEach", desc := "(I)I" } : Jvm.MethodName) ({ cls := "KitchenSpits", name := "bestEach", desc := "(I)I" } : Jvm.MethodName)) ∈ uW := uW_of 737 (by decide +kernel) rfl
theorem u_co_X4_bestEach : (Jvm.Cond.code ({ cls := "KitchenSpits", name := "bestEach", desc := "(I)I" } : Jvm.MethodName) prog_1_method_38_code (6 : Nat) (Option.some Jvm.ClassFile.FieldType.int)) ∈ uW := uW_of 738 (by decide +kernel) rfl
theorem u_ml_X4_183 : (Jvm.Cond.methodLink "KitchenSpits" (183 : Nat) ({ cls := "KitchenSpits", name := "untilDoneTurnedEach", desc := "(II)I" } : Jvm.MethodName)) ∈ uW := uW_of 739 (by decide +kernel) rfl
theorem u_im_X4_untilDoneTurnedEach : (Jvm.Cond.instanceMethod ({ cls := "KitchenSpits", name := "untilDoneTurnedEach", desc := "(II)I" } : Jvm.MethodName)) ∈ uW := uW_of 741 (by decide +kernel) rfl
theorem u_co_X4_untilDoneTurnedEach : (Jvm.Cond.code ({ cls := "KitchenSpits", name := "untilDoneTurnedEach", desc := "(II)I" } : Jvm.MethodName) prog_1_method_50_code (4 : Nat) (Option.some Jvm.ClassFile.FieldType.int)) ∈ uW := uW_of 742 (by decide +kernel) rfl
theorem u_ml_L_244 : (Jvm.Cond.methodLink "KitchenSpitsLaw" (244 : Nat) ({ cls := "KitchenSpitsLaw", name := "bestSpit", desc := "(LKitchenSpits;I[J)I" } : Jvm.MethodName)) ∈ uW := uW_of 743 (by decide +kernel) rfl
theorem u_st_L_bestSpit : (Jvm.Cond.static ({ cls := "KitchenSpitsLaw", name := "bestSpit", desc := "(LKitchenSpits;I[J)I" } : Jvm.MethodName)) ∈ uW := uW_of 744 (by decide +kernel) rfl
theorem u_co_L_bestSpit : (Jvm.Cond.codeWith ({ cls := "KitchenSpitsLaw", name := "bestSpit", desc := "(LKitchenSpits;I[J)I" } : Jvm.MethodName) method_34_code (4 : Nat) (Option.some Jvm.ClassFile.FieldType.int) [((0 : Nat), (9 : Nat), (12 : Nat), (21 : Nat)), ((0 : Nat), (9 : Nat), (15 : Nat), (13 : Nat))]) ∈ uW := uW_of 745 (by decide +kernel) rfl
theorem u_ml_L_112 : (Jvm.Cond.methodLink "KitchenSpitsLaw" (112 : Nat) ({ cls := "KitchenSpits", name := "bestSpit", desc := "(I)I" } : Jvm.MethodName)) ∈ uW := uW_of 746 (by decide +kernel) rfl
theorem u_im_X4_bestSpit : (Jvm.Cond.instanceMethod ({ cls := "KitchenSpits", name := "bestSpit", desc := "(I)I" } : Jvm.MethodName)) ∈ uW := uW_of 747 (by decide +kernel) rfl
theorem u_se_X4_bestSpit : (Jvm.Cond.selects "KitchenSpits" ({ cls := "KitchenSpits", name := "bestSpit", desc := "(I)I" } : Jvm.MethodName) ({ cls := "KitchenSpits", name := "bestSpit", desc := "(I)I" } : Jvm.MethodName)) ∈ uW := uW_of 748 (by decide +kernel) rfl
theorem u_co_X4_bestSpit : (Jvm.Cond.code ({ cls := "KitchenSpits", name := "bestSpit", desc := "(I)I" } : Jvm.MethodName) prog_1_method_39_code (6 : Nat) (Option.some Jvm.ClassFile.FieldType.int)) ∈ uW := uW_of 749 (by decide +kernel) rfl
theorem u_ml_X4_188 : (Jvm.Cond.methodLink "KitchenSpits" (188 : Nat) ({ cls := "KitchenSpits", name := "untilDoneHungOn", desc := "(II)I" } : Jvm.MethodName)) ∈ uW := uW_of 751 (by decide +kernel) rfl
theorem u_im_X4_untilDoneHungOn : (Jvm.Cond.instanceMethod ({ cls := "KitchenSpits", name := "untilDoneHungOn", desc := "(II)I" } : Jvm.MethodName)) ∈ uW := uW_of 753 (by decide +kernel) rfl
theorem u_co_X4_untilDoneHungOn : (Jvm.Cond.code ({ cls := "KitchenSpits", name := "untilDoneHungOn", desc := "(II)I" } : Jvm.MethodName) prog_1_method_51_code (3 : Nat) (Option.some Jvm.ClassFile.FieldType.int)) ∈ uW := uW_of 754 (by decide +kernel) rfl
theorem u_cl_L_116 : (Jvm.Cond.classLink "KitchenSpitsLaw" (116 : Nat) "KitchenSpitsModel") ∈ uW := uW_of 755 (by decide +kernel) rfl
theorem u_ins_X5 : (Jvm.Cond.instantiable "KitchenSpitsModel" (11 : Nat)) ∈ uW := uW_of 756 (by decide +kernel) rfl
theorem u_ml_L_118 : (Jvm.Cond.methodLink "KitchenSpitsLaw" (118 : Nat) ({ cls := "KitchenSpitsModel", name := "<init>", desc := "()V" } : Jvm.MethodName)) ∈ uW := uW_of 757 (by decide +kernel) rfl
theorem u_im_X5_init : (Jvm.Cond.instanceMethod ({ cls := "KitchenSpitsModel", name := "<init>", desc := "()V" } : Jvm.MethodName)) ∈ uW := uW_of 758 (by decide +kernel) rfl
theorem u_co_X5_init : (Jvm.Cond.code ({ cls := "KitchenSpitsModel", name := "<init>", desc := "()V" } : Jvm.MethodName) prog_7_method_1_code (1 : Nat) (Option.none : Option Jvm.ClassFile.FieldType)) ∈ uW := uW_of 759 (by decide +kernel) rfl
theorem u_ml_X5_1 : (Jvm.Cond.methodLink "KitchenSpitsModel" (1 : Nat) ({ cls := "java/lang/Object", name := "<init>", desc := "()V" } : Jvm.MethodName)) ∈ uW := uW_of 760 (by decide +kernel) rfl
theorem u_fl_X5_32 : (Jvm.Cond.fieldLink "KitchenSpitsModel" (32 : Nat) "KitchenSpitsModel" "thrown" "I") ∈ uW := uW_of 761 (by decide +kernel) rfl
theorem u_fl_X5_35 : (Jvm.Cond.fieldLink "KitchenSpitsModel" (35 : Nat) "KitchenSpitsModel" "fires" "I") ∈ uW := uW_of 762 (by decide +kernel) rfl
theorem u_fl_X5_42 : (Jvm.Cond.fieldLink "KitchenSpitsModel" (42 : Nat) "KitchenSpitsModel" "spits" "I") ∈ uW := uW_of 763 (by decide +kernel) rfl
theorem u_fl_X5_45 : (Jvm.Cond.fieldLink "KitchenSpitsModel" (45 : Nat) "KitchenSpitsModel" "roasts" "I") ∈ uW := uW_of 764 (by decide +kernel) rfl
theorem u_fl_X5_7 : (Jvm.Cond.fieldLink "KitchenSpitsModel" (7 : Nat) "KitchenSpitsModel" "feast" "I") ∈ uW := uW_of 765 (by decide +kernel) rfl
theorem u_fl_X5_13 : (Jvm.Cond.fieldLink "KitchenSpitsModel" (13 : Nat) "KitchenSpitsModel" "place" "[I") ∈ uW := uW_of 766 (by decide +kernel) rfl
theorem u_fl_X5_17 : (Jvm.Cond.fieldLink "KitchenSpitsModel" (17 : Nat) "KitchenSpitsModel" "pounds" "[I") ∈ uW := uW_of 767 (by decide +kernel) rfl
theorem u_fl_X5_20 : (Jvm.Cond.fieldLink "KitchenSpitsModel" (20 : Nat) "KitchenSpitsModel" "got" "[I") ∈ uW := uW_of 768 (by decide +kernel) rfl
theorem u_fl_X5_23 : (Jvm.Cond.fieldLink "KitchenSpitsModel" (23 : Nat) "KitchenSpitsModel" "flares" "[I") ∈ uW := uW_of 769 (by decide +kernel) rfl
theorem u_fl_X5_26 : (Jvm.Cond.fieldLink "KitchenSpitsModel" (26 : Nat) "KitchenSpitsModel" "now" "[I") ∈ uW := uW_of 770 (by decide +kernel) rfl
theorem u_fl_X5_29 : (Jvm.Cond.fieldLink "KitchenSpitsModel" (29 : Nat) "KitchenSpitsModel" "kept" "[I") ∈ uW := uW_of 771 (by decide +kernel) rfl
theorem u_ml_L_125 : (Jvm.Cond.methodLink "KitchenSpitsLaw" (125 : Nat) ({ cls := "KitchenSpitsModel", name := "thrown", desc := "()I" } : Jvm.MethodName)) ∈ uW := uW_of 795 (by decide +kernel) rfl
theorem u_im_X5_thrown : (Jvm.Cond.instanceMethod ({ cls := "KitchenSpitsModel", name := "thrown", desc := "()I" } : Jvm.MethodName)) ∈ uW := uW_of 796 (by decide +kernel) rfl
theorem u_se_X5_thrown : (Jvm.Cond.selects "KitchenSpitsModel" ({ cls := "KitchenSpitsModel", name := "thrown", desc := "()I" } : Jvm.MethodName) ({ cls := "KitchenSpitsModel", name := "thrown", desc := "()I" } : Jvm.MethodName)) ∈ uW := uW_of 797 (by decide +kernel) rfl
theorem u_co_X5_thrown : (Jvm.Cond.code ({ cls := "KitchenSpitsModel", name := "thrown", desc := "()I" } : Jvm.MethodName) prog_7_method_2_code (1 : Nat) (Option.some Jvm.ClassFile.FieldType.int)) ∈ uW := uW_of 798 (by decide +kernel) rfl
theorem u_ml_L_124 : (Jvm.Cond.methodLink "KitchenSpitsLaw" (124 : Nat) ({ cls := "KitchenSpitsModel", name := "addFire", desc := "()I" } : Jvm.MethodName)) ∈ uW := uW_of 799 (by decide +kernel) rfl
theorem u_im_X5_addFire : (Jvm.Cond.instanceMethod ({ cls := "KitchenSpitsModel", name := "addFire", desc := "()I" } : Jvm.MethodName)) ∈ uW := uW_of 800 (by decide +kernel) rfl
theorem u_se_X5_addFire : (Jvm.Cond.selects "KitchenSpitsModel" ({ cls := "KitchenSpitsModel", name := "addFire", desc := "()I" } : Jvm.MethodName) ({ cls := "KitchenSpitsModel", name := "addFire", desc := "()I" } : Jvm.MethodName)) ∈ uW := uW_of 801 (by decide +kernel) rfl
theorem u_co_X5_addFire : (Jvm.Cond.code ({ cls := "KitchenSpitsModel", name := "addFire", desc := "()I" } : Jvm.MethodName) prog_7_method_26_code (1 : Nat) (Option.some Jvm.ClassFile.FieldType.int)) ∈ uW := uW_of 802 (by decide +kernel) rfl
theorem u_ml_X5_103 : (Jvm.Cond.methodLink "KitchenSpitsModel" (103 : Nat) ({ cls := "KitchenSpitsModel", name := "fail", desc := "(I)I" } : Jvm.MethodName)) ∈ uW := uW_of 803 (by decide +kernel) rfl
theorem u_im_X5_fail : (Jvm.Cond.instanceMethod ({ cls := "KitchenSpitsModel", name := "fail", desc := "(I)I" } : Jvm.MethodName)) ∈ uW := uW_of 805 (by decide +kernel) rfl
theorem u_co_X5_fail : (Jvm.Cond.code ({ cls := "KitchenSpitsModel", name := "fail", desc := "(I)I" } : Jvm.MethodName) prog_7_method_3_code (2 : Nat) (Option.some Jvm.ClassFile.FieldType.int)) ∈ uW := uW_of 806 (by decide +kernel) rfl
theorem u_ml_L_131 : (Jvm.Cond.methodLink "KitchenSpitsLaw" (131 : Nat) ({ cls := "KitchenSpitsModel", name := "layLogs", desc := "(II)I" } : Jvm.MethodName)) ∈ uW := uW_of 807 (by decide +kernel) rfl
theorem u_im_X5_layLogs : (Jvm.Cond.instanceMethod ({ cls := "KitchenSpitsModel", name := "layLogs", desc := "(II)I" } : Jvm.MethodName)) ∈ uW := uW_of 808 (by decide +kernel) rfl
theorem u_se_X5_layLogs : (Jvm.Cond.selects "KitchenSpitsModel" ({ cls := "KitchenSpitsModel", name := "layLogs", desc := "(II)I" } : Jvm.MethodName) ({ cls := "KitchenSpitsModel", name := "layLogs", desc := "(II)I" } : Jvm.MethodName)) ∈ uW := uW_of 809 (by decide +kernel) rfl
theorem u_co_X5_layLogs : (Jvm.Cond.code ({ cls := "KitchenSpitsModel", name := "layLogs", desc := "(II)I" } : Jvm.MethodName) prog_7_method_27_code (3 : Nat) (Option.some Jvm.ClassFile.FieldType.int)) ∈ uW := uW_of 810 (by decide +kernel) rfl
theorem u_ml_X5_106 : (Jvm.Cond.methodLink "KitchenSpitsModel" (106 : Nat) ({ cls := "KitchenSpitsModel", name := "isFire", desc := "(I)Z" } : Jvm.MethodName)) ∈ uW := uW_of 811 (by decide +kernel) rfl
theorem u_im_X5_isFire : (Jvm.Cond.instanceMethod ({ cls := "KitchenSpitsModel", name := "isFire", desc := "(I)Z" } : Jvm.MethodName)) ∈ uW := uW_of 813 (by decide +kernel) rfl
theorem u_co_X5_isFire : (Jvm.Cond.code ({ cls := "KitchenSpitsModel", name := "isFire", desc := "(I)Z" } : Jvm.MethodName) prog_7_method_6_code (2 : Nat) (Option.some Jvm.ClassFile.FieldType.boolean)) ∈ uW := uW_of 814 (by decide +kernel) rfl
theorem u_ml_X5_38 : (Jvm.Cond.methodLink "KitchenSpitsModel" (38 : Nat) ({ cls := "KitchenSpitsModel", name := "isIn", desc := "(III)Z" } : Jvm.MethodName)) ∈ uW := uW_of 815 (by decide +kernel) rfl
theorem u_st_X5_isIn : (Jvm.Cond.static ({ cls := "KitchenSpitsModel", name := "isIn", desc := "(III)Z" } : Jvm.MethodName)) ∈ uW := uW_of 816 (by decide +kernel) rfl
theorem u_co_X5_isIn : (Jvm.Cond.code ({ cls := "KitchenSpitsModel", name := "isIn", desc := "(III)Z" } : Jvm.MethodName) prog_7_method_5_code (3 : Nat) (Option.some Jvm.ClassFile.FieldType.boolean)) ∈ uW := uW_of 817 (by decide +kernel) rfl
theorem u_ml_X5_54 : (Jvm.Cond.methodLink "KitchenSpitsModel" (54 : Nat) ({ cls := "KitchenSpitsModel", name := "fi", desc := "(II)I" } : Jvm.MethodName)) ∈ uW := uW_of 818 (by decide +kernel) rfl
theorem u_im_X5_fi : (Jvm.Cond.instanceMethod ({ cls := "KitchenSpitsModel", name := "fi", desc := "(II)I" } : Jvm.MethodName)) ∈ uW := uW_of 820 (by decide +kernel) rfl
theorem u_co_X5_fi : (Jvm.Cond.code ({ cls := "KitchenSpitsModel", name := "fi", desc := "(II)I" } : Jvm.MethodName) prog_7_method_9_code (3 : Nat) (Option.some Jvm.ClassFile.FieldType.int)) ∈ uW := uW_of 821 (by decide +kernel) rfl
theorem u_ml_X5_68 : (Jvm.Cond.methodLink "KitchenSpitsModel" (68 : Nat) ({ cls := "java/lang/Math", name := "min", desc := "(II)I" } : Jvm.MethodName)) ∈ uW := uW_of 822 (by decide +kernel) rfl
theorem u_ml_X5_100 : (Jvm.Cond.methodLink "KitchenSpitsModel" (100 : Nat) ({ cls := "KitchenSpitsModel", name := "letFire", desc := "(III)V" } : Jvm.MethodName)) ∈ uW := uW_of 823 (by decide +kernel) rfl
theorem u_im_X5_letFire : (Jvm.Cond.instanceMethod ({ cls := "KitchenSpitsModel", name := "letFire", desc := "(III)V" } : Jvm.MethodName)) ∈ uW := uW_of 825 (by decide +kernel) rfl
theorem u_co_X5_letFire : (Jvm.Cond.code ({ cls := "KitchenSpitsModel", name := "letFire", desc := "(III)V" } : Jvm.MethodName) prog_7_method_10_code (4 : Nat) (Option.none : Option Jvm.ClassFile.FieldType)) ∈ uW := uW_of 826 (by decide +kernel) rfl
theorem u_ml_L_134 : (Jvm.Cond.methodLink "KitchenSpitsLaw" (134 : Nat) ({ cls := "KitchenSpitsModel", name := "addSpit", desc := "(II)I" } : Jvm.MethodName)) ∈ uW := uW_of 827 (by decide +kernel) rfl
theorem u_im_X5_addSpit : (Jvm.Cond.instanceMethod ({ cls := "KitchenSpitsModel", name := "addSpit", desc := "(II)I" } : Jvm.MethodName)) ∈ uW := uW_of 828 (by decide +kernel) rfl
theorem u_se_X5_addSpit : (Jvm.Cond.selects "KitchenSpitsModel" ({ cls := "KitchenSpitsModel", name := "addSpit", desc := "(II)I" } : Jvm.MethodName) ({ cls := "KitchenSpitsModel", name := "addSpit", desc := "(II)I" } : Jvm.MethodName)) ∈ uW := uW_of 829 (by decide +kernel) rfl
theorem u_co_X5_addSpit : (Jvm.Cond.code ({ cls := "KitchenSpitsModel", name := "addSpit", desc := "(II)I" } : Jvm.MethodName) prog_7_method_28_code (3 : Nat) (Option.some Jvm.ClassFile.FieldType.int)) ∈ uW := uW_of 830 (by decide +kernel) rfl
theorem u_ml_X5_86 : (Jvm.Cond.methodLink "KitchenSpitsModel" (86 : Nat) ({ cls := "KitchenSpitsModel", name := "letSpit", desc := "(III)V" } : Jvm.MethodName)) ∈ uW := uW_of 831 (by decide +kernel) rfl
theorem u_im_X5_letSpit : (Jvm.Cond.instanceMethod ({ cls := "KitchenSpitsModel", name := "letSpit", desc := "(III)V" } : Jvm.MethodName)) ∈ uW := uW_of 833 (by decide +kernel) rfl
theorem u_co_X5_letSpit : (Jvm.Cond.code ({ cls := "KitchenSpitsModel", name := "letSpit", desc := "(III)V" } : Jvm.MethodName) prog_7_method_12_code (4 : Nat) (Option.none : Option Jvm.ClassFile.FieldType)) ∈ uW := uW_of 834 (by decide +kernel) rfl
theorem u_ml_L_137 : (Jvm.Cond.methodLink "KitchenSpitsLaw" (137 : Nat) ({ cls := "KitchenSpitsModel", name := "moveSpit", desc := "(II)I" } : Jvm.MethodName)) ∈ uW := uW_of 835 (by decide +kernel) rfl
theorem u_im_X5_moveSpit : (Jvm.Cond.instanceMethod ({ cls := "KitchenSpitsModel", name := "moveSpit", desc := "(II)I" } : Jvm.MethodName)) ∈ uW := uW_of 836 (by decide +kernel) rfl
theorem u_se_X5_moveSpit : (Jvm.Cond.selects "KitchenSpitsModel" ({ cls := "KitchenSpitsModel", name := "moveSpit", desc := "(II)I" } : Jvm.MethodName) ({ cls := "KitchenSpitsModel", name := "moveSpit", desc := "(II)I" } : Jvm.MethodName)) ∈ uW := uW_of 837 (by decide +kernel) rfl
theorem u_co_X5_moveSpit : (Jvm.Cond.code ({ cls := "KitchenSpitsModel", name := "moveSpit", desc := "(II)I" } : Jvm.MethodName) prog_7_method_29_code (4 : Nat) (Option.some Jvm.ClassFile.FieldType.int)) ∈ uW := uW_of 838 (by decide +kernel) rfl
theorem u_ml_X5_110 : (Jvm.Cond.methodLink "KitchenSpitsModel" (110 : Nat) ({ cls := "KitchenSpitsModel", name := "isSpit", desc := "(I)Z" } : Jvm.MethodName)) ∈ uW := uW_of 839 (by decide +kernel) rfl
theorem u_im_X5_isSpit : (Jvm.Cond.instanceMethod ({ cls := "KitchenSpitsModel", name := "isSpit", desc := "(I)Z" } : Jvm.MethodName)) ∈ uW := uW_of 841 (by decide +kernel) rfl
theorem u_co_X5_isSpit : (Jvm.Cond.code ({ cls := "KitchenSpitsModel", name := "isSpit", desc := "(I)Z" } : Jvm.MethodName) prog_7_method_7_code (2 : Nat) (Option.some Jvm.ClassFile.FieldType.boolean)) ∈ uW := uW_of 842 (by decide +kernel) rfl
theorem u_ml_X5_58 : (Jvm.Cond.methodLink "KitchenSpitsModel" (58 : Nat) ({ cls := "KitchenSpitsModel", name := "sp", desc := "(II)I" } : Jvm.MethodName)) ∈ uW := uW_of 843 (by decide +kernel) rfl
theorem u_im_X5_sp : (Jvm.Cond.instanceMethod ({ cls := "KitchenSpitsModel", name := "sp", desc := "(II)I" } : Jvm.MethodName)) ∈ uW := uW_of 845 (by decide +kernel) rfl
theorem u_co_X5_sp : (Jvm.Cond.code ({ cls := "KitchenSpitsModel", name := "sp", desc := "(II)I" } : Jvm.MethodName) prog_7_method_11_code (3 : Nat) (Option.some Jvm.ClassFile.FieldType.int)) ∈ uW := uW_of 846 (by decide +kernel) rfl
theorem u_ml_L_140 : (Jvm.Cond.methodLink "KitchenSpitsLaw" (140 : Nat) ({ cls := "KitchenSpitsModel", name := "turnEach", desc := "(II)I" } : Jvm.MethodName)) ∈ uW := uW_of 847 (by decide +kernel) rfl
theorem u_im_X5_turnEach : (Jvm.Cond.instanceMethod ({ cls := "KitchenSpitsModel", name := "turnEach", desc := "(II)I" } : Jvm.MethodName)) ∈ uW := uW_of 848 (by decide +kernel) rfl
theorem u_se_X5_turnEach : (Jvm.Cond.selects "KitchenSpitsModel" ({ cls := "KitchenSpitsModel", name := "turnEach", desc := "(II)I" } : Jvm.MethodName) ({ cls := "KitchenSpitsModel", name := "turnEach", desc := "(II)I" } : Jvm.MethodName)) ∈ uW := uW_of 849 (by decide +kernel) rfl
theorem u_co_X5_turnEach : (Jvm.Cond.code ({ cls := "KitchenSpitsModel", name := "turnEach", desc := "(II)I" } : Jvm.MethodName) prog_7_method_31_code (4 : Nat) (Option.some Jvm.ClassFile.FieldType.int)) ∈ uW := uW_of 850 (by decide +kernel) rfl
theorem u_ml_X5_113 : (Jvm.Cond.methodLink "KitchenSpitsModel" (113 : Nat) ({ cls := "KitchenSpitsModel", name := "each", desc := "(II)V" } : Jvm.MethodName)) ∈ uW := uW_of 851 (by decide +kernel) rfl
theorem u_im_X5_each : (Jvm.Cond.instanceMethod ({ cls := "KitchenSpitsModel", name := "each", desc := "(II)V" } : Jvm.MethodName)) ∈ uW := uW_of 853 (by decide +kernel) rfl
theorem u_co_X5_each : (Jvm.Cond.code ({ cls := "KitchenSpitsModel", name := "each", desc := "(II)V" } : Jvm.MethodName) prog_7_method_30_code (3 : Nat) (Option.none : Option Jvm.ClassFile.FieldType)) ∈ uW := uW_of 854 (by decide +kernel) rfl
theorem u_ml_L_144 : (Jvm.Cond.methodLink "KitchenSpitsLaw" (144 : Nat) ({ cls := "KitchenSpitsModel", name := "setFeast", desc := "(I)I" } : Jvm.MethodName)) ∈ uW := uW_of 855 (by decide +kernel) rfl
theorem u_im_X5_setFeast : (Jvm.Cond.instanceMethod ({ cls := "KitchenSpitsModel", name := "setFeast", desc := "(I)I" } : Jvm.MethodName)) ∈ uW := uW_of 856 (by decide +kernel) rfl
theorem u_se_X5_setFeast : (Jvm.Cond.selects "KitchenSpitsModel" ({ cls := "KitchenSpitsModel", name := "setFeast", desc := "(I)I" } : Jvm.MethodName) ({ cls := "KitchenSpitsModel", name := "setFeast", desc := "(I)I" } : Jvm.MethodName)) ∈ uW := uW_of 857 (by decide +kernel) rfl
theorem u_co_X5_setFeast : (Jvm.Cond.code ({ cls := "KitchenSpitsModel", name := "setFeast", desc := "(I)I" } : Jvm.MethodName) prog_7_method_32_code (3 : Nat) (Option.some Jvm.ClassFile.FieldType.int)) ∈ uW := uW_of 858 (by decide +kernel) rfl
theorem u_ml_L_147 : (Jvm.Cond.methodLink "KitchenSpitsLaw" (147 : Nat) ({ cls := "KitchenSpitsModel", name := "hang", desc := "(II)I" } : Jvm.MethodName)) ∈ uW := uW_of 859 (by decide +kernel) rfl
theorem u_im_X5_hang : (Jvm.Cond.instanceMethod ({ cls := "KitchenSpitsModel", name := "hang", desc := "(II)I" } : Jvm.MethodName)) ∈ uW := uW_of 860 (by decide +kernel) rfl
theorem u_se_X5_hang : (Jvm.Cond.selects "KitchenSpitsModel" ({ cls := "KitchenSpitsModel", name := "hang", desc := "(II)I" } : Jvm.MethodName) ({ cls := "KitchenSpitsModel", name := "hang", desc := "(II)I" } : Jvm.MethodName)) ∈ uW := uW_of 861 (by decide +kernel) rfl
theorem u_co_X5_hang : (Jvm.Cond.code ({ cls := "KitchenSpitsModel", name := "hang", desc := "(II)I" } : Jvm.MethodName) prog_7_method_34_code (3 : Nat) (Option.some Jvm.ClassFile.FieldType.int)) ∈ uW := uW_of 862 (by decide +kernel) rfl
theorem u_ml_X5_116 : (Jvm.Cond.methodLink "KitchenSpitsModel" (116 : Nat) ({ cls := "KitchenSpitsModel", name := "hangNext", desc := "(II)V" } : Jvm.MethodName)) ∈ uW := uW_of 863 (by decide +kernel) rfl
theorem u_im_X5_hangNext : (Jvm.Cond.instanceMethod ({ cls := "KitchenSpitsModel", name := "hangNext", desc := "(II)V" } : Jvm.MethodName)) ∈ uW := uW_of 865 (by decide +kernel) rfl
theorem u_co_X5_hangNext : (Jvm.Cond.code ({ cls := "KitchenSpitsModel", name := "hangNext", desc := "(II)V" } : Jvm.MethodName) prog_7_method_33_code (4 : Nat) (Option.none : Option Jvm.ClassFile.FieldType)) ∈ uW := uW_of 866 (by decide +kernel) rfl
theorem u_ml_X5_73 : (Jvm.Cond.methodLink "KitchenSpitsModel" (73 : Nat) ({ cls := "KitchenSpitsModel", name := "let", desc := "(III)V" } : Jvm.MethodName)) ∈ uW := uW_of 867 (by decide +kernel) rfl
theorem u_im_X5_let : (Jvm.Cond.instanceMethod ({ cls := "KitchenSpitsModel", name := "let", desc := "(III)V" } : Jvm.MethodName)) ∈ uW := uW_of 869 (by decide +kernel) rfl
theorem u_co_X5_let : (Jvm.Cond.code ({ cls := "KitchenSpitsModel", name := "let", desc := "(III)V" } : Jvm.MethodName) prog_7_method_14_code (4 : Nat) (Option.none : Option Jvm.ClassFile.FieldType)) ∈ uW := uW_of 870 (by decide +kernel) rfl
theorem u_ml_L_150 : (Jvm.Cond.methodLink "KitchenSpitsLaw" (150 : Nat) ({ cls := "KitchenSpitsModel", name := "turnNow", desc := "(I)I" } : Jvm.MethodName)) ∈ uW := uW_of 871 (by decide +kernel) rfl
theorem u_im_X5_turnNow : (Jvm.Cond.instanceMethod ({ cls := "KitchenSpitsModel", name := "turnNow", desc := "(I)I" } : Jvm.MethodName)) ∈ uW := uW_of 872 (by decide +kernel) rfl
theorem u_se_X5_turnNow : (Jvm.Cond.selects "KitchenSpitsModel" ({ cls := "KitchenSpitsModel", name := "turnNow", desc := "(I)I" } : Jvm.MethodName) ({ cls := "KitchenSpitsModel", name := "turnNow", desc := "(I)I" } : Jvm.MethodName)) ∈ uW := uW_of 873 (by decide +kernel) rfl
theorem u_co_X5_turnNow : (Jvm.Cond.code ({ cls := "KitchenSpitsModel", name := "turnNow", desc := "(I)I" } : Jvm.MethodName) prog_7_method_36_code (2 : Nat) (Option.some Jvm.ClassFile.FieldType.int)) ∈ uW := uW_of 874 (by decide +kernel) rfl
theorem u_ml_X5_119 : (Jvm.Cond.methodLink "KitchenSpitsModel" (119 : Nat) ({ cls := "KitchenSpitsModel", name := "holds", desc := "(I)Z" } : Jvm.MethodName)) ∈ uW := uW_of 875 (by decide +kernel) rfl
theorem u_im_X5_holds : (Jvm.Cond.instanceMethod ({ cls := "KitchenSpitsModel", name := "holds", desc := "(I)Z" } : Jvm.MethodName)) ∈ uW := uW_of 877 (by decide +kernel) rfl
theorem u_co_X5_holds : (Jvm.Cond.code ({ cls := "KitchenSpitsModel", name := "holds", desc := "(I)Z" } : Jvm.MethodName) prog_7_method_35_code (2 : Nat) (Option.some Jvm.ClassFile.FieldType.boolean)) ∈ uW := uW_of 878 (by decide +kernel) rfl
theorem u_ml_X5_96 : (Jvm.Cond.methodLink "KitchenSpitsModel" (96 : Nat) ({ cls := "KitchenSpitsModel", name := "turn", desc := "(I)V" } : Jvm.MethodName)) ∈ uW := uW_of 879 (by decide +kernel) rfl
theorem u_im_X5_turn : (Jvm.Cond.instanceMethod ({ cls := "KitchenSpitsModel", name := "turn", desc := "(I)V" } : Jvm.MethodName)) ∈ uW := uW_of 881 (by decide +kernel) rfl
theorem u_co_X5_turn : (Jvm.Cond.code ({ cls := "KitchenSpitsModel", name := "turn", desc := "(I)V" } : Jvm.MethodName) prog_7_method_24_code (2 : Nat) (Option.none : Option Jvm.ClassFile.FieldType)) ∈ uW := uW_of 882 (by decide +kernel) rfl
theorem u_ml_X5_61 : (Jvm.Cond.methodLink "KitchenSpitsModel" (61 : Nat) ({ cls := "KitchenSpitsModel", name := "ro", desc := "(II)I" } : Jvm.MethodName)) ∈ uW := uW_of 883 (by decide +kernel) rfl
theorem u_im_X5_ro : (Jvm.Cond.instanceMethod ({ cls := "KitchenSpitsModel", name := "ro", desc := "(II)I" } : Jvm.MethodName)) ∈ uW := uW_of 885 (by decide +kernel) rfl
theorem u_co_X5_ro : (Jvm.Cond.code ({ cls := "KitchenSpitsModel", name := "ro", desc := "(II)I" } : Jvm.MethodName) prog_7_method_13_code (3 : Nat) (Option.some Jvm.ClassFile.FieldType.int)) ∈ uW := uW_of 886 (by decide +kernel) rfl
theorem u_ml_L_153 : (Jvm.Cond.methodLink "KitchenSpitsLaw" (153 : Nat) ({ cls := "KitchenSpitsModel", name := "baste", desc := "(I)I" } : Jvm.MethodName)) ∈ uW := uW_of 887 (by decide +kernel) rfl
theorem u_im_X5_baste : (Jvm.Cond.instanceMethod ({ cls := "KitchenSpitsModel", name := "baste", desc := "(I)I" } : Jvm.MethodName)) ∈ uW := uW_of 888 (by decide +kernel) rfl
theorem u_se_X5_baste : (Jvm.Cond.selects "KitchenSpitsModel" ({ cls := "KitchenSpitsModel", name := "baste", desc := "(I)I" } : Jvm.MethodName) ({ cls := "KitchenSpitsModel", name := "baste", desc := "(I)I" } : Jvm.MethodName)) ∈ uW := uW_of 889 (by decide +kernel) rfl
theorem u_co_X5_baste : (Jvm.Cond.code ({ cls := "KitchenSpitsModel", name := "baste", desc := "(I)I" } : Jvm.MethodName) prog_7_method_37_code (2 : Nat) (Option.some Jvm.ClassFile.FieldType.int)) ∈ uW := uW_of 890 (by decide +kernel) rfl
theorem u_ml_L_156 : (Jvm.Cond.methodLink "KitchenSpitsLaw" (156 : Nat) ({ cls := "KitchenSpitsModel", name := "takeDown", desc := "(I)I" } : Jvm.MethodName)) ∈ uW := uW_of 891 (by decide +kernel) rfl
theorem u_im_X5_takeDown : (Jvm.Cond.instanceMethod ({ cls := "KitchenSpitsModel", name := "takeDown", desc := "(I)I" } : Jvm.MethodName)) ∈ uW := uW_of 892 (by decide +kernel) rfl
theorem u_se_X5_takeDown : (Jvm.Cond.selects "KitchenSpitsModel" ({ cls := "KitchenSpitsModel", name := "takeDown", desc := "(I)I" } : Jvm.MethodName) ({ cls := "KitchenSpitsModel", name := "takeDown", desc := "(I)I" } : Jvm.MethodName)) ∈ uW := uW_of 893 (by decide +kernel) rfl
theorem u_co_X5_takeDown : (Jvm.Cond.code ({ cls := "KitchenSpitsModel", name := "takeDown", desc := "(I)I" } : Jvm.MethodName) prog_7_method_38_code (3 : Nat) (Option.some Jvm.ClassFile.FieldType.int)) ∈ uW := uW_of 894 (by decide +kernel) rfl
theorem u_ml_L_159 : (Jvm.Cond.methodLink "KitchenSpitsLaw" (159 : Nat) ({ cls := "KitchenSpitsModel", name := "emptyPan", desc := "(I)I" } : Jvm.MethodName)) ∈ uW := uW_of 895 (by decide +kernel) rfl
theorem u_im_X5_emptyPan : (Jvm.Cond.instanceMethod ({ cls := "KitchenSpitsModel", name := "emptyPan", desc := "(I)I" } : Jvm.MethodName)) ∈ uW := uW_of 896 (by decide +kernel) rfl
theorem u_se_X5_emptyPan : (Jvm.Cond.selects "KitchenSpitsModel" ({ cls := "KitchenSpitsModel", name := "emptyPan", desc := "(I)I" } : Jvm.MethodName) ({ cls := "KitchenSpitsModel", name := "emptyPan", desc := "(I)I" } : Jvm.MethodName)) ∈ uW := uW_of 897 (by decide +kernel) rfl
theorem u_co_X5_emptyPan : (Jvm.Cond.code ({ cls := "KitchenSpitsModel", name := "emptyPan", desc := "(I)I" } : Jvm.MethodName) prog_7_method_39_code (3 : Nat) (Option.some Jvm.ClassFile.FieldType.int)) ∈ uW := uW_of 898 (by decide +kernel) rfl
theorem u_ml_L_162 : (Jvm.Cond.methodLink "KitchenSpitsLaw" (162 : Nat) ({ cls := "KitchenSpitsModel", name := "pass", desc := "(I)I" } : Jvm.MethodName)) ∈ uW := uW_of 899 (by decide +kernel) rfl
theorem u_im_X5_pass : (Jvm.Cond.instanceMethod ({ cls := "KitchenSpitsModel", name := "pass", desc := "(I)I" } : Jvm.MethodName)) ∈ uW := uW_of 900 (by decide +kernel) rfl
theorem u_se_X5_pass : (Jvm.Cond.selects "KitchenSpitsModel" ({ cls := "KitchenSpitsModel", name := "pass", desc := "(I)I" } : Jvm.MethodName) ({ cls := "KitchenSpitsModel", name := "pass", desc := "(I)I" } : Jvm.MethodName)) ∈ uW := uW_of 901 (by decide +kernel) rfl
theorem u_co_X5_pass : (Jvm.Cond.code ({ cls := "KitchenSpitsModel", name := "pass", desc := "(I)I" } : Jvm.MethodName) prog_7_method_40_code (4 : Nat) (Option.some Jvm.ClassFile.FieldType.int)) ∈ uW := uW_of 902 (by decide +kernel) rfl
theorem u_ml_X5_122 : (Jvm.Cond.methodLink "KitchenSpitsModel" (122 : Nat) ({ cls := "KitchenSpitsModel", name := "minuteOn", desc := "()I" } : Jvm.MethodName)) ∈ uW := uW_of 903 (by decide +kernel) rfl
theorem u_im_X5_minuteOn : (Jvm.Cond.instanceMethod ({ cls := "KitchenSpitsModel", name := "minuteOn", desc := "()I" } : Jvm.MethodName)) ∈ uW := uW_of 905 (by decide +kernel) rfl
theorem u_co_X5_minuteOn : (Jvm.Cond.code ({ cls := "KitchenSpitsModel", name := "minuteOn", desc := "()I" } : Jvm.MethodName) prog_7_method_25_code (4 : Nat) (Option.some Jvm.ClassFile.FieldType.int)) ∈ uW := uW_of 906 (by decide +kernel) rfl
theorem u_ml_X5_89 : (Jvm.Cond.methodLink "KitchenSpitsModel" (89 : Nat) ({ cls := "KitchenSpitsModel", name := "roasted", desc := "(II)V" } : Jvm.MethodName)) ∈ uW := uW_of 907 (by decide +kernel) rfl
theorem u_im_X5_roasted : (Jvm.Cond.instanceMethod ({ cls := "KitchenSpitsModel", name := "roasted", desc := "(II)V" } : Jvm.MethodName)) ∈ uW := uW_of 909 (by decide +kernel) rfl
theorem u_co_X5_roasted : (Jvm.Cond.code ({ cls := "KitchenSpitsModel", name := "roasted", desc := "(II)V" } : Jvm.MethodName) prog_7_method_22_code (5 : Nat) (Option.none : Option Jvm.ClassFile.FieldType)) ∈ uW := uW_of 910 (by decide +kernel) rfl
theorem u_ml_X5_77 : (Jvm.Cond.methodLink "KitchenSpitsModel" (77 : Nat) ({ cls := "KitchenSpitsModel", name := "glow", desc := "(I)I" } : Jvm.MethodName)) ∈ uW := uW_of 911 (by decide +kernel) rfl
theorem u_im_X5_glow : (Jvm.Cond.instanceMethod ({ cls := "KitchenSpitsModel", name := "glow", desc := "(I)I" } : Jvm.MethodName)) ∈ uW := uW_of 913 (by decide +kernel) rfl
theorem u_co_X5_glow : (Jvm.Cond.code ({ cls := "KitchenSpitsModel", name := "glow", desc := "(I)I" } : Jvm.MethodName) prog_7_method_17_code (2 : Nat) (Option.some Jvm.ClassFile.FieldType.int)) ∈ uW := uW_of 914 (by decide +kernel) rfl
theorem u_ml_X5_80 : (Jvm.Cond.methodLink "KitchenSpitsModel" (80 : Nat) ({ cls := "java/lang/Math", name := "max", desc := "(II)I" } : Jvm.MethodName)) ∈ uW := uW_of 915 (by decide +kernel) rfl
theorem u_ml_X5_83 : (Jvm.Cond.methodLink "KitchenSpitsModel" (83 : Nat) ({ cls := "KitchenSpitsModel", name := "tan", desc := "(III)V" } : Jvm.MethodName)) ∈ uW := uW_of 916 (by decide +kernel) rfl
theorem u_im_X5_tan : (Jvm.Cond.instanceMethod ({ cls := "KitchenSpitsModel", name := "tan", desc := "(III)V" } : Jvm.MethodName)) ∈ uW := uW_of 918 (by decide +kernel) rfl
theorem u_co_X5_tan : (Jvm.Cond.code ({ cls := "KitchenSpitsModel", name := "tan", desc := "(III)V" } : Jvm.MethodName) prog_7_method_21_code (5 : Nat) (Option.none : Option Jvm.ClassFile.FieldType)) ∈ uW := uW_of 919 (by decide +kernel) rfl
theorem u_ml_X5_93 : (Jvm.Cond.methodLink "KitchenSpitsModel" (93 : Nat) ({ cls := "KitchenSpitsModel", name := "drip", desc := "(II)V" } : Jvm.MethodName)) ∈ uW := uW_of 920 (by decide +kernel) rfl
theorem u_im_X5_drip : (Jvm.Cond.instanceMethod ({ cls := "KitchenSpitsModel", name := "drip", desc := "(II)V" } : Jvm.MethodName)) ∈ uW := uW_of 922 (by decide +kernel) rfl
theorem u_co_X5_drip : (Jvm.Cond.code ({ cls := "KitchenSpitsModel", name := "drip", desc := "(II)V" } : Jvm.MethodName) prog_7_method_23_code (3 : Nat) (Option.none : Option Jvm.ClassFile.FieldType)) ∈ uW := uW_of 923 (by decide +kernel) rfl
theorem u_ml_L_166 : (Jvm.Cond.methodLink "KitchenSpitsLaw" (166 : Nat) ({ cls := "KitchenSpitsModel", name := "minute", desc := "()I" } : Jvm.MethodName)) ∈ uW := uW_of 924 (by decide +kernel) rfl
theorem u_im_X5_minute : (Jvm.Cond.instanceMethod ({ cls := "KitchenSpitsModel", name := "minute", desc := "()I" } : Jvm.MethodName)) ∈ uW := uW_of 925 (by decide +kernel) rfl
theorem u_se_X5_minute : (Jvm.Cond.selects "KitchenSpitsModel" ({ cls := "KitchenSpitsModel", name := "minute", desc := "()I" } : Jvm.MethodName) ({ cls := "KitchenSpitsModel", name := "minute", desc := "()I" } : Jvm.MethodName)) ∈ uW := uW_of 926 (by decide +kernel) rfl
theorem u_co_X5_minute : (Jvm.Cond.code ({ cls := "KitchenSpitsModel", name := "minute", desc := "()I" } : Jvm.MethodName) prog_7_method_41_code (1 : Nat) (Option.some Jvm.ClassFile.FieldType.int)) ∈ uW := uW_of 927 (by decide +kernel) rfl
theorem u_ml_X5_126 : (Jvm.Cond.methodLink "KitchenSpitsModel" (126 : Nat) ({ cls := "KitchenSpitsModel", name := "told", desc := "(I)I" } : Jvm.MethodName)) ∈ uW := uW_of 928 (by decide +kernel) rfl
theorem u_im_X5_told : (Jvm.Cond.instanceMethod ({ cls := "KitchenSpitsModel", name := "told", desc := "(I)I" } : Jvm.MethodName)) ∈ uW := uW_of 930 (by decide +kernel) rfl
theorem u_co_X5_told : (Jvm.Cond.code ({ cls := "KitchenSpitsModel", name := "told", desc := "(I)I" } : Jvm.MethodName) prog_7_method_4_code (2 : Nat) (Option.some Jvm.ClassFile.FieldType.int)) ∈ uW := uW_of 931 (by decide +kernel) rfl
theorem u_ml_L_170 : (Jvm.Cond.methodLink "KitchenSpitsLaw" (170 : Nat) ({ cls := "KitchenSpitsModel", name := "feast", desc := "()I" } : Jvm.MethodName)) ∈ uW := uW_of 932 (by decide +kernel) rfl
theorem u_im_X5_feast : (Jvm.Cond.instanceMethod ({ cls := "KitchenSpitsModel", name := "feast", desc := "()I" } : Jvm.MethodName)) ∈ uW := uW_of 933 (by decide +kernel) rfl
theorem u_se_X5_feast : (Jvm.Cond.selects "KitchenSpitsModel" ({ cls := "KitchenSpitsModel", name := "feast", desc := "()I" } : Jvm.MethodName) ({ cls := "KitchenSpitsModel", name := "feast", desc := "()I" } : Jvm.MethodName)) ∈ uW := uW_of 934 (by decide +kernel) rfl
theorem u_co_X5_feast : (Jvm.Cond.code ({ cls := "KitchenSpitsModel", name := "feast", desc := "()I" } : Jvm.MethodName) prog_7_method_42_code (1 : Nat) (Option.some Jvm.ClassFile.FieldType.int)) ∈ uW := uW_of 935 (by decide +kernel) rfl
theorem u_ml_L_174 : (Jvm.Cond.methodLink "KitchenSpitsLaw" (174 : Nat) ({ cls := "KitchenSpitsModel", name := "fires", desc := "()I" } : Jvm.MethodName)) ∈ uW := uW_of 936 (by decide +kernel) rfl
theorem u_im_X5_fires : (Jvm.Cond.instanceMethod ({ cls := "KitchenSpitsModel", name := "fires", desc := "()I" } : Jvm.MethodName)) ∈ uW := uW_of 937 (by decide +kernel) rfl
theorem u_se_X5_fires : (Jvm.Cond.selects "KitchenSpitsModel" ({ cls := "KitchenSpitsModel", name := "fires", desc := "()I" } : Jvm.MethodName) ({ cls := "KitchenSpitsModel", name := "fires", desc := "()I" } : Jvm.MethodName)) ∈ uW := uW_of 938 (by decide +kernel) rfl
theorem u_co_X5_fires : (Jvm.Cond.code ({ cls := "KitchenSpitsModel", name := "fires", desc := "()I" } : Jvm.MethodName) prog_7_method_43_code (1 : Nat) (Option.some Jvm.ClassFile.FieldType.int)) ∈ uW := uW_of 939 (by decide +kernel) rfl
theorem u_ml_L_177 : (Jvm.Cond.methodLink "KitchenSpitsLaw" (177 : Nat) ({ cls := "KitchenSpitsModel", name := "logsOf", desc := "(I)I" } : Jvm.MethodName)) ∈ uW := uW_of 940 (by decide +kernel) rfl
theorem u_im_X5_logsOf : (Jvm.Cond.instanceMethod ({ cls := "KitchenSpitsModel", name := "logsOf", desc := "(I)I" } : Jvm.MethodName)) ∈ uW := uW_of 941 (by decide +kernel) rfl
theorem u_se_X5_logsOf : (Jvm.Cond.selects "KitchenSpitsModel" ({ cls := "KitchenSpitsModel", name := "logsOf", desc := "(I)I" } : Jvm.MethodName) ({ cls := "KitchenSpitsModel", name := "logsOf", desc := "(I)I" } : Jvm.MethodName)) ∈ uW := uW_of 942 (by decide +kernel) rfl
theorem u_co_X5_logsOf : (Jvm.Cond.code ({ cls := "KitchenSpitsModel", name := "logsOf", desc := "(I)I" } : Jvm.MethodName) prog_7_method_45_code (2 : Nat) (Option.some Jvm.ClassFile.FieldType.int)) ∈ uW := uW_of 943 (by decide +kernel) rfl
theorem u_ml_X5_129 : (Jvm.Cond.methodLink "KitchenSpitsModel" (129 : Nat) ({ cls := "KitchenSpitsModel", name := "fire", desc := "(II)I" } : Jvm.MethodName)) ∈ uW := uW_of 944 (by decide +kernel) rfl
theorem u_im_X5_fire : (Jvm.Cond.instanceMethod ({ cls := "KitchenSpitsModel", name := "fire", desc := "(II)I" } : Jvm.MethodName)) ∈ uW := uW_of 946 (by decide +kernel) rfl
theorem u_co_X5_fire : (Jvm.Cond.code ({ cls := "KitchenSpitsModel", name := "fire", desc := "(II)I" } : Jvm.MethodName) prog_7_method_44_code (3 : Nat) (Option.some Jvm.ClassFile.FieldType.int)) ∈ uW := uW_of 947 (by decide +kernel) rfl
theorem u_ml_L_180 : (Jvm.Cond.methodLink "KitchenSpitsLaw" (180 : Nat) ({ cls := "KitchenSpitsModel", name := "heatOf", desc := "(I)I" } : Jvm.MethodName)) ∈ uW := uW_of 948 (by decide +kernel) rfl
theorem u_im_X5_heatOf : (Jvm.Cond.instanceMethod ({ cls := "KitchenSpitsModel", name := "heatOf", desc := "(I)I" } : Jvm.MethodName)) ∈ uW := uW_of 949 (by decide +kernel) rfl
theorem u_se_X5_heatOf : (Jvm.Cond.selects "KitchenSpitsModel" ({ cls := "KitchenSpitsModel", name := "heatOf", desc := "(I)I" } : Jvm.MethodName) ({ cls := "KitchenSpitsModel", name := "heatOf", desc := "(I)I" } : Jvm.MethodName)) ∈ uW := uW_of 950 (by decide +kernel) rfl
theorem u_co_X5_heatOf : (Jvm.Cond.code ({ cls := "KitchenSpitsModel", name := "heatOf", desc := "(I)I" } : Jvm.MethodName) prog_7_method_46_code (2 : Nat) (Option.some Jvm.ClassFile.FieldType.int)) ∈ uW := uW_of 951 (by decide +kernel) rfl
theorem u_ml_L_184 : (Jvm.Cond.methodLink "KitchenSpitsLaw" (184 : Nat) ({ cls := "KitchenSpitsModel", name := "spits", desc := "()I" } : Jvm.MethodName)) ∈ uW := uW_of 952 (by decide +kernel) rfl
theorem u_im_X5_spits : (Jvm.Cond.instanceMethod ({ cls := "KitchenSpitsModel", name := "spits", desc := "()I" } : Jvm.MethodName)) ∈ uW := uW_of 953 (by decide +kernel) rfl
theorem u_se_X5_spits : (Jvm.Cond.selects "KitchenSpitsModel" ({ cls := "KitchenSpitsModel", name := "spits", desc := "()I" } : Jvm.MethodName) ({ cls := "KitchenSpitsModel", name := "spits", desc := "()I" } : Jvm.MethodName)) ∈ uW := uW_of 954 (by decide +kernel) rfl
theorem u_co_X5_spits : (Jvm.Cond.code ({ cls := "KitchenSpitsModel", name := "spits", desc := "()I" } : Jvm.MethodName) prog_7_method_47_code (1 : Nat) (Option.some Jvm.ClassFile.FieldType.int)) ∈ uW := uW_of 955 (by decide +kernel) rfl
theorem u_ml_L_187 : (Jvm.Cond.methodLink "KitchenSpitsLaw" (187 : Nat) ({ cls := "KitchenSpitsModel", name := "fireOf", desc := "(I)I" } : Jvm.MethodName)) ∈ uW := uW_of 956 (by decide +kernel) rfl
theorem u_im_X5_fireOf : (Jvm.Cond.instanceMethod ({ cls := "KitchenSpitsModel", name := "fireOf", desc := "(I)I" } : Jvm.MethodName)) ∈ uW := uW_of 957 (by decide +kernel) rfl
theorem u_se_X5_fireOf : (Jvm.Cond.selects "KitchenSpitsModel" ({ cls := "KitchenSpitsModel", name := "fireOf", desc := "(I)I" } : Jvm.MethodName) ({ cls := "KitchenSpitsModel", name := "fireOf", desc := "(I)I" } : Jvm.MethodName)) ∈ uW := uW_of 958 (by decide +kernel) rfl
theorem u_co_X5_fireOf : (Jvm.Cond.code ({ cls := "KitchenSpitsModel", name := "fireOf", desc := "(I)I" } : Jvm.MethodName) prog_7_method_48_code (2 : Nat) (Option.some Jvm.ClassFile.FieldType.int)) ∈ uW := uW_of 959 (by decide +kernel) rfl
theorem u_ml_L_190 : (Jvm.Cond.methodLink "KitchenSpitsLaw" (190 : Nat) ({ cls := "KitchenSpitsModel", name := "feetOf", desc := "(I)I" } : Jvm.MethodName)) ∈ uW := uW_of 960 (by decide +kernel) rfl
theorem u_im_X5_feetOf : (Jvm.Cond.instanceMethod ({ cls := "KitchenSpitsModel", name := "feetOf", desc := "(I)I" } : Jvm.MethodName)) ∈ uW := uW_of 961 (by decide +kernel) rfl
theorem u_se_X5_feetOf : (Jvm.Cond.selects "KitchenSpitsModel" ({ cls := "KitchenSpitsModel", name := "feetOf", desc := "(I)I" } : Jvm.MethodName) ({ cls := "KitchenSpitsModel", name := "feetOf", desc := "(I)I" } : Jvm.MethodName)) ∈ uW := uW_of 962 (by decide +kernel) rfl
theorem u_co_X5_feetOf : (Jvm.Cond.code ({ cls := "KitchenSpitsModel", name := "feetOf", desc := "(I)I" } : Jvm.MethodName) prog_7_method_50_code (2 : Nat) (Option.some Jvm.ClassFile.FieldType.int)) ∈ uW := uW_of 963 (by decide +kernel) rfl
theorem u_ml_X5_132 : (Jvm.Cond.methodLink "KitchenSpitsModel" (132 : Nat) ({ cls := "KitchenSpitsModel", name := "spit", desc := "(II)I" } : Jvm.MethodName)) ∈ uW := uW_of 964 (by decide +kernel) rfl
theorem u_im_X5_spit : (Jvm.Cond.instanceMethod ({ cls := "KitchenSpitsModel", name := "spit", desc := "(II)I" } : Jvm.MethodName)) ∈ uW := uW_of 966 (by decide +kernel) rfl
theorem u_co_X5_spit : (Jvm.Cond.code ({ cls := "KitchenSpitsModel", name := "spit", desc := "(II)I" } : Jvm.MethodName) prog_7_method_49_code (3 : Nat) (Option.some Jvm.ClassFile.FieldType.int)) ∈ uW := uW_of 967 (by decide +kernel) rfl
theorem u_ml_L_193 : (Jvm.Cond.methodLink "KitchenSpitsLaw" (193 : Nat) ({ cls := "KitchenSpitsModel", name := "glowAt", desc := "(I)I" } : Jvm.MethodName)) ∈ uW := uW_of 968 (by decide +kernel) rfl
theorem u_im_X5_glowAt : (Jvm.Cond.instanceMethod ({ cls := "KitchenSpitsModel", name := "glowAt", desc := "(I)I" } : Jvm.MethodName)) ∈ uW := uW_of 969 (by decide +kernel) rfl
theorem u_se_X5_glowAt : (Jvm.Cond.selects "KitchenSpitsModel" ({ cls := "KitchenSpitsModel", name := "glowAt", desc := "(I)I" } : Jvm.MethodName) ({ cls := "KitchenSpitsModel", name := "glowAt", desc := "(I)I" } : Jvm.MethodName)) ∈ uW := uW_of 970 (by decide +kernel) rfl
theorem u_co_X5_glowAt : (Jvm.Cond.code ({ cls := "KitchenSpitsModel", name := "glowAt", desc := "(I)I" } : Jvm.MethodName) prog_7_method_51_code (2 : Nat) (Option.some Jvm.ClassFile.FieldType.int)) ∈ uW := uW_of 971 (by decide +kernel) rfl
theorem u_ml_L_196 : (Jvm.Cond.methodLink "KitchenSpitsLaw" (196 : Nat) ({ cls := "KitchenSpitsModel", name := "turnedEach", desc := "(I)I" } : Jvm.MethodName)) ∈ uW := uW_of 972 (by decide +kernel) rfl
theorem u_im_X5_turnedEach : (Jvm.Cond.instanceMethod ({ cls := "KitchenSpitsModel", name := "turnedEach", desc := "(I)I" } : Jvm.MethodName)) ∈ uW := uW_of 973 (by decide +kernel) rfl
theorem u_se_X5_turnedEach : (Jvm.Cond.selects "KitchenSpitsModel" ({ cls := "KitchenSpitsModel", name := "turnedEach", desc := "(I)I" } : Jvm.MethodName) ({ cls := "KitchenSpitsModel", name := "turnedEach", desc := "(I)I" } : Jvm.MethodName)) ∈ uW := uW_of 974 (by decide +kernel) rfl
theorem u_co_X5_turnedEach : (Jvm.Cond.code ({ cls := "KitchenSpitsModel", name := "turnedEach", desc := "(I)I" } : Jvm.MethodName) prog_7_method_52_code (2 : Nat) (Option.some Jvm.ClassFile.FieldType.int)) ∈ uW := uW_of 975 (by decide +kernel) rfl
theorem u_ml_L_199 : (Jvm.Cond.methodLink "KitchenSpitsLaw" (199 : Nat) ({ cls := "KitchenSpitsModel", name := "drippingsOf", desc := "(I)I" } : Jvm.MethodName)) ∈ uW := uW_of 976 (by decide +kernel) rfl
theorem u_im_X5_drippingsOf : (Jvm.Cond.instanceMethod ({ cls := "KitchenSpitsModel", name := "drippingsOf", desc := "(I)I" } : Jvm.MethodName)) ∈ uW := uW_of 977 (by decide +kernel) rfl
theorem u_se_X5_drippingsOf : (Jvm.Cond.selects "KitchenSpitsModel" ({ cls := "KitchenSpitsModel", name := "drippingsOf", desc := "(I)I" } : Jvm.MethodName) ({ cls := "KitchenSpitsModel", name := "drippingsOf", desc := "(I)I" } : Jvm.MethodName)) ∈ uW := uW_of 978 (by decide +kernel) rfl
theorem u_co_X5_drippingsOf : (Jvm.Cond.code ({ cls := "KitchenSpitsModel", name := "drippingsOf", desc := "(I)I" } : Jvm.MethodName) prog_7_method_53_code (2 : Nat) (Option.some Jvm.ClassFile.FieldType.int)) ∈ uW := uW_of 979 (by decide +kernel) rfl
theorem u_ml_L_202 : (Jvm.Cond.methodLink "KitchenSpitsLaw" (202 : Nat) ({ cls := "KitchenSpitsModel", name := "roastOn", desc := "(I)I" } : Jvm.MethodName)) ∈ uW := uW_of 980 (by decide +kernel) rfl
theorem u_im_X5_roastOn : (Jvm.Cond.instanceMethod ({ cls := "KitchenSpitsModel", name := "roastOn", desc := "(I)I" } : Jvm.MethodName)) ∈ uW := uW_of 981 (by decide +kernel) rfl
theorem u_se_X5_roastOn : (Jvm.Cond.selects "KitchenSpitsModel" ({ cls := "KitchenSpitsModel", name := "roastOn", desc := "(I)I" } : Jvm.MethodName) ({ cls := "KitchenSpitsModel", name := "roastOn", desc := "(I)I" } : Jvm.MethodName)) ∈ uW := uW_of 982 (by decide +kernel) rfl
theorem u_co_X5_roastOn : (Jvm.Cond.code ({ cls := "KitchenSpitsModel", name := "roastOn", desc := "(I)I" } : Jvm.MethodName) prog_7_method_54_code (2 : Nat) (Option.some Jvm.ClassFile.FieldType.int)) ∈ uW := uW_of 983 (by decide +kernel) rfl
theorem u_ml_L_206 : (Jvm.Cond.methodLink "KitchenSpitsLaw" (206 : Nat) ({ cls := "KitchenSpitsModel", name := "roasts", desc := "()I" } : Jvm.MethodName)) ∈ uW := uW_of 984 (by decide +kernel) rfl
theorem u_im_X5_roasts : (Jvm.Cond.instanceMethod ({ cls := "KitchenSpitsModel", name := "roasts", desc := "()I" } : Jvm.MethodName)) ∈ uW := uW_of 985 (by decide +kernel) rfl
theorem u_se_X5_roasts : (Jvm.Cond.selects "KitchenSpitsModel" ({ cls := "KitchenSpitsModel", name := "roasts", desc := "()I" } : Jvm.MethodName) ({ cls := "KitchenSpitsModel", name := "roasts", desc := "()I" } : Jvm.MethodName)) ∈ uW := uW_of 986 (by decide +kernel) rfl
theorem u_co_X5_roasts : (Jvm.Cond.code ({ cls := "KitchenSpitsModel", name := "roasts", desc := "()I" } : Jvm.MethodName) prog_7_method_55_code (1 : Nat) (Option.some Jvm.ClassFile.FieldType.int)) ∈ uW := uW_of 987 (by decide +kernel) rfl
theorem u_ml_L_209 : (Jvm.Cond.methodLink "KitchenSpitsLaw" (209 : Nat) ({ cls := "KitchenSpitsModel", name := "poundsOf", desc := "(I)I" } : Jvm.MethodName)) ∈ uW := uW_of 988 (by decide +kernel) rfl
theorem u_im_X5_poundsOf : (Jvm.Cond.instanceMethod ({ cls := "KitchenSpitsModel", name := "poundsOf", desc := "(I)I" } : Jvm.MethodName)) ∈ uW := uW_of 989 (by decide +kernel) rfl
theorem u_se_X5_poundsOf : (Jvm.Cond.selects "KitchenSpitsModel" ({ cls := "KitchenSpitsModel", name := "poundsOf", desc := "(I)I" } : Jvm.MethodName) ({ cls := "KitchenSpitsModel", name := "poundsOf", desc := "(I)I" } : Jvm.MethodName)) ∈ uW := uW_of 990 (by decide +kernel) rfl
theorem u_co_X5_poundsOf : (Jvm.Cond.code ({ cls := "KitchenSpitsModel", name := "poundsOf", desc := "(I)I" } : Jvm.MethodName) prog_7_method_56_code (2 : Nat) (Option.some Jvm.ClassFile.FieldType.int)) ∈ uW := uW_of 991 (by decide +kernel) rfl
theorem u_ml_X5_135 : (Jvm.Cond.methodLink "KitchenSpitsModel" (135 : Nat) ({ cls := "KitchenSpitsModel", name := "isRoast", desc := "(I)Z" } : Jvm.MethodName)) ∈ uW := uW_of 992 (by decide +kernel) rfl
theorem u_im_X5_isRoast : (Jvm.Cond.instanceMethod ({ cls := "KitchenSpitsModel", name := "isRoast", desc := "(I)Z" } : Jvm.MethodName)) ∈ uW := uW_of 994 (by decide +kernel) rfl
theorem u_co_X5_isRoast : (Jvm.Cond.code ({ cls := "KitchenSpitsModel", name := "isRoast", desc := "(I)Z" } : Jvm.MethodName) prog_7_method_8_code (2 : Nat) (Option.some Jvm.ClassFile.FieldType.boolean)) ∈ uW := uW_of 995 (by decide +kernel) rfl
theorem u_ml_L_212 : (Jvm.Cond.methodLink "KitchenSpitsLaw" (212 : Nat) ({ cls := "KitchenSpitsModel", name := "spitOf", desc := "(I)I" } : Jvm.MethodName)) ∈ uW := uW_of 996 (by decide +kernel) rfl
theorem u_im_X5_spitOf : (Jvm.Cond.instanceMethod ({ cls := "KitchenSpitsModel", name := "spitOf", desc := "(I)I" } : Jvm.MethodName)) ∈ uW := uW_of 997 (by decide +kernel) rfl
theorem u_se_X5_spitOf : (Jvm.Cond.selects "KitchenSpitsModel" ({ cls := "KitchenSpitsModel", name := "spitOf", desc := "(I)I" } : Jvm.MethodName) ({ cls := "KitchenSpitsModel", name := "spitOf", desc := "(I)I" } : Jvm.MethodName)) ∈ uW := uW_of 998 (by decide +kernel) rfl
theorem u_co_X5_spitOf : (Jvm.Cond.code ({ cls := "KitchenSpitsModel", name := "spitOf", desc := "(I)I" } : Jvm.MethodName) prog_7_method_58_code (2 : Nat) (Option.some Jvm.ClassFile.FieldType.int)) ∈ uW := uW_of 999 (by decide +kernel) rfl
theorem u_ml_L_215 : (Jvm.Cond.methodLink "KitchenSpitsLaw" (215 : Nat) ({ cls := "KitchenSpitsModel", name := "sideToFire", desc := "(I)I" } : Jvm.MethodName)) ∈ uW := uW_of 1000 (by decide +kernel) rfl
theorem u_im_X5_sideToFire : (Jvm.Cond.instanceMethod ({ cls := "KitchenSpitsModel", name := "sideToFire", desc := "(I)I" } : Jvm.MethodName)) ∈ uW := uW_of 1001 (by decide +kernel) rfl
theorem u_se_X5_sideToFire : (Jvm.Cond.selects "KitchenSpitsModel" ({ cls := "KitchenSpitsModel", name := "sideToFire", desc := "(I)I" } : Jvm.MethodName) ({ cls := "KitchenSpitsModel", name := "sideToFire", desc := "(I)I" } : Jvm.MethodName)) ∈ uW := uW_of 1002 (by decide +kernel) rfl
theorem u_co_X5_sideToFire : (Jvm.Cond.code ({ cls := "KitchenSpitsModel", name := "sideToFire", desc := "(I)I" } : Jvm.MethodName) prog_7_method_59_code (2 : Nat) (Option.some Jvm.ClassFile.FieldType.int)) ∈ uW := uW_of 1003 (by decide +kernel) rfl
theorem u_ml_X5_138 : (Jvm.Cond.methodLink "KitchenSpitsModel" (138 : Nat) ({ cls := "KitchenSpitsModel", name := "roast", desc := "(II)I" } : Jvm.MethodName)) ∈ uW := uW_of 1004 (by decide +kernel) rfl
theorem u_im_X5_roast : (Jvm.Cond.instanceMethod ({ cls := "KitchenSpitsModel", name := "roast", desc := "(II)I" } : Jvm.MethodName)) ∈ uW := uW_of 1006 (by decide +kernel) rfl
theorem u_co_X5_roast : (Jvm.Cond.code ({ cls := "KitchenSpitsModel", name := "roast", desc := "(II)I" } : Jvm.MethodName) prog_7_method_57_code (3 : Nat) (Option.some Jvm.ClassFile.FieldType.int)) ∈ uW := uW_of 1007 (by decide +kernel) rfl
theorem u_ml_L_218 : (Jvm.Cond.methodLink "KitchenSpitsLaw" (218 : Nat) ({ cls := "KitchenSpitsModel", name := "brownOf", desc := "(II)I" } : Jvm.MethodName)) ∈ uW := uW_of 1008 (by decide +kernel) rfl
theorem u_im_X5_brownOf : (Jvm.Cond.instanceMethod ({ cls := "KitchenSpitsModel", name := "brownOf", desc := "(II)I" } : Jvm.MethodName)) ∈ uW := uW_of 1009 (by decide +kernel) rfl
theorem u_se_X5_brownOf : (Jvm.Cond.selects "KitchenSpitsModel" ({ cls := "KitchenSpitsModel", name := "brownOf", desc := "(II)I" } : Jvm.MethodName) ({ cls := "KitchenSpitsModel", name := "brownOf", desc := "(II)I" } : Jvm.MethodName)) ∈ uW := uW_of 1010 (by decide +kernel) rfl
theorem u_co_X5_brownOf : (Jvm.Cond.code ({ cls := "KitchenSpitsModel", name := "brownOf", desc := "(II)I" } : Jvm.MethodName) prog_7_method_60_code (3 : Nat) (Option.some Jvm.ClassFile.FieldType.int)) ∈ uW := uW_of 1011 (by decide +kernel) rfl
theorem u_ml_L_221 : (Jvm.Cond.methodLink "KitchenSpitsLaw" (221 : Nat) ({ cls := "KitchenSpitsModel", name := "fatOf", desc := "(I)I" } : Jvm.MethodName)) ∈ uW := uW_of 1012 (by decide +kernel) rfl
theorem u_im_X5_fatOf : (Jvm.Cond.instanceMethod ({ cls := "KitchenSpitsModel", name := "fatOf", desc := "(I)I" } : Jvm.MethodName)) ∈ uW := uW_of 1013 (by decide +kernel) rfl
theorem u_se_X5_fatOf : (Jvm.Cond.selects "KitchenSpitsModel" ({ cls := "KitchenSpitsModel", name := "fatOf", desc := "(I)I" } : Jvm.MethodName) ({ cls := "KitchenSpitsModel", name := "fatOf", desc := "(I)I" } : Jvm.MethodName)) ∈ uW := uW_of 1014 (by decide +kernel) rfl
theorem u_co_X5_fatOf : (Jvm.Cond.code ({ cls := "KitchenSpitsModel", name := "fatOf", desc := "(I)I" } : Jvm.MethodName) prog_7_method_61_code (2 : Nat) (Option.some Jvm.ClassFile.FieldType.int)) ∈ uW := uW_of 1015 (by decide +kernel) rfl
theorem u_ml_L_224 : (Jvm.Cond.methodLink "KitchenSpitsLaw" (224 : Nat) ({ cls := "KitchenSpitsModel", name := "wetFor", desc := "(I)I" } : Jvm.MethodName)) ∈ uW := uW_of 1016 (by decide +kernel) rfl
theorem u_im_X5_wetFor : (Jvm.Cond.instanceMethod ({ cls := "KitchenSpitsModel", name := "wetFor", desc := "(I)I" } : Jvm.MethodName)) ∈ uW := uW_of 1017 (by decide +kernel) rfl
theorem u_se_X5_wetFor : (Jvm.Cond.selects "KitchenSpitsModel" ({ cls := "KitchenSpitsModel", name := "wetFor", desc := "(I)I" } : Jvm.MethodName) ({ cls := "KitchenSpitsModel", name := "wetFor", desc := "(I)I" } : Jvm.MethodName)) ∈ uW := uW_of 1018 (by decide +kernel) rfl
theorem u_co_X5_wetFor : (Jvm.Cond.code ({ cls := "KitchenSpitsModel", name := "wetFor", desc := "(I)I" } : Jvm.MethodName) prog_7_method_62_code (2 : Nat) (Option.some Jvm.ClassFile.FieldType.int)) ∈ uW := uW_of 1019 (by decide +kernel) rfl
theorem u_ml_L_227 : (Jvm.Cond.methodLink "KitchenSpitsLaw" (227 : Nat) ({ cls := "KitchenSpitsModel", name := "isDone", desc := "(I)Z" } : Jvm.MethodName)) ∈ uW := uW_of 1020 (by decide +kernel) rfl
theorem u_im_X5_isDone : (Jvm.Cond.instanceMethod ({ cls := "KitchenSpitsModel", name := "isDone", desc := "(I)Z" } : Jvm.MethodName)) ∈ uW := uW_of 1021 (by decide +kernel) rfl
theorem u_se_X5_isDone : (Jvm.Cond.selects "KitchenSpitsModel" ({ cls := "KitchenSpitsModel", name := "isDone", desc := "(I)Z" } : Jvm.MethodName) ({ cls := "KitchenSpitsModel", name := "isDone", desc := "(I)Z" } : Jvm.MethodName)) ∈ uW := uW_of 1022 (by decide +kernel) rfl
theorem u_co_X5_isDone : (Jvm.Cond.code ({ cls := "KitchenSpitsModel", name := "isDone", desc := "(I)Z" } : Jvm.MethodName) prog_7_method_63_code (2 : Nat) (Option.some Jvm.ClassFile.FieldType.boolean)) ∈ uW := uW_of 1023 (by decide +kernel) rfl
theorem u_ml_X5_141 : (Jvm.Cond.methodLink "KitchenSpitsModel" (141 : Nat) ({ cls := "KitchenSpitsModel", name := "done", desc := "(I)Z" } : Jvm.MethodName)) ∈ uW := uW_of 1024 (by decide +kernel) rfl
theorem u_im_X5_done : (Jvm.Cond.instanceMethod ({ cls := "KitchenSpitsModel", name := "done", desc := "(I)Z" } : Jvm.MethodName)) ∈ uW := uW_of 1026 (by decide +kernel) rfl
theorem u_co_X5_done : (Jvm.Cond.code ({ cls := "KitchenSpitsModel", name := "done", desc := "(I)Z" } : Jvm.MethodName) prog_7_method_19_code (3 : Nat) (Option.some Jvm.ClassFile.FieldType.boolean)) ∈ uW := uW_of 1027 (by decide +kernel) rfl
theorem u_ml_X5_64 : (Jvm.Cond.methodLink "KitchenSpitsModel" (64 : Nat) ({ cls := "KitchenSpitsModel", name := "most", desc := "(I)I" } : Jvm.MethodName)) ∈ uW := uW_of 1028 (by decide +kernel) rfl
theorem u_im_X5_most : (Jvm.Cond.instanceMethod ({ cls := "KitchenSpitsModel", name := "most", desc := "(I)I" } : Jvm.MethodName)) ∈ uW := uW_of 1030 (by decide +kernel) rfl
theorem u_co_X5_most : (Jvm.Cond.code ({ cls := "KitchenSpitsModel", name := "most", desc := "(I)I" } : Jvm.MethodName) prog_7_method_18_code (2 : Nat) (Option.some Jvm.ClassFile.FieldType.int)) ∈ uW := uW_of 1031 (by decide +kernel) rfl
theorem u_ml_L_230 : (Jvm.Cond.methodLink "KitchenSpitsLaw" (230 : Nat) ({ cls := "KitchenSpitsModel", name := "isBurnt", desc := "(I)Z" } : Jvm.MethodName)) ∈ uW := uW_of 1032 (by decide +kernel) rfl
theorem u_im_X5_isBurnt : (Jvm.Cond.instanceMethod ({ cls := "KitchenSpitsModel", name := "isBurnt", desc := "(I)Z" } : Jvm.MethodName)) ∈ uW := uW_of 1033 (by decide +kernel) rfl
theorem u_se_X5_isBurnt : (Jvm.Cond.selects "KitchenSpitsModel" ({ cls := "KitchenSpitsModel", name := "isBurnt", desc := "(I)Z" } : Jvm.MethodName) ({ cls := "KitchenSpitsModel", name := "isBurnt", desc := "(I)Z" } : Jvm.MethodName)) ∈ uW := uW_of 1034 (by decide +kernel) rfl
theorem u_co_X5_isBurnt : (Jvm.Cond.code ({ cls := "KitchenSpitsModel", name := "isBurnt", desc := "(I)Z" } : Jvm.MethodName) prog_7_method_64_code (2 : Nat) (Option.some Jvm.ClassFile.FieldType.boolean)) ∈ uW := uW_of 1035 (by decide +kernel) rfl
theorem u_ml_X5_144 : (Jvm.Cond.methodLink "KitchenSpitsModel" (144 : Nat) ({ cls := "KitchenSpitsModel", name := "burnt", desc := "(I)Z" } : Jvm.MethodName)) ∈ uW := uW_of 1036 (by decide +kernel) rfl
theorem u_im_X5_burnt : (Jvm.Cond.instanceMethod ({ cls := "KitchenSpitsModel", name := "burnt", desc := "(I)Z" } : Jvm.MethodName)) ∈ uW := uW_of 1038 (by decide +kernel) rfl
theorem u_co_X5_burnt : (Jvm.Cond.code ({ cls := "KitchenSpitsModel", name := "burnt", desc := "(I)Z" } : Jvm.MethodName) prog_7_method_20_code (3 : Nat) (Option.some Jvm.ClassFile.FieldType.boolean)) ∈ uW := uW_of 1039 (by decide +kernel) rfl
theorem u_ml_L_233 : (Jvm.Cond.methodLink "KitchenSpitsLaw" (233 : Nat) ({ cls := "KitchenSpitsModel", name := "minutesUntilDone", desc := "(I)I" } : Jvm.MethodName)) ∈ uW := uW_of 1040 (by decide +kernel) rfl
theorem u_im_X5_minutesUntilDone : (Jvm.Cond.instanceMethod ({ cls := "KitchenSpitsModel", name := "minutesUntilDone", desc := "(I)I" } : Jvm.MethodName)) ∈ uW := uW_of 1041 (by decide +kernel) rfl
theorem u_se_X5_minutesUntilDone : (Jvm.Cond.selects "KitchenSpitsModel" ({ cls := "KitchenSpitsModel", name := "minutesUntilDone", desc := "(I)I" } : Jvm.MethodName) ({ cls := "KitchenSpitsModel", name := "minutesUntilDone", desc := "(I)I" } : Jvm.MethodName)) ∈ uW := uW_of 1042 (by decide +kernel) rfl
theorem u_co_X5_minutesUntilDone : (Jvm.Cond.code ({ cls := "KitchenSpitsModel", name := "minutesUntilDone", desc := "(I)I" } : Jvm.MethodName) prog_7_method_66_code (2 : Nat) (Option.some Jvm.ClassFile.FieldType.int)) ∈ uW := uW_of 1043 (by decide +kernel) rfl
theorem u_ml_X5_150 : (Jvm.Cond.methodLink "KitchenSpitsModel" (150 : Nat) ({ cls := "KitchenSpitsModel", name := "keep", desc := "()V" } : Jvm.MethodName)) ∈ uW := uW_of 1044 (by decide +kernel) rfl
theorem u_im_X5_keep : (Jvm.Cond.instanceMethod ({ cls := "KitchenSpitsModel", name := "keep", desc := "()V" } : Jvm.MethodName)) ∈ uW := uW_of 1046 (by decide +kernel) rfl
theorem u_co_X5_keep : (Jvm.Cond.code ({ cls := "KitchenSpitsModel", name := "keep", desc := "()V" } : Jvm.MethodName) prog_7_method_15_code (1 : Nat) (Option.none : Option Jvm.ClassFile.FieldType)) ∈ uW := uW_of 1047 (by decide +kernel) rfl
theorem u_ml_X5_48 : (Jvm.Cond.methodLink "KitchenSpitsModel" (48 : Nat) ({ cls := "java/lang/System", name := "arraycopy", desc := "(Ljava/lang/Object;ILjava/lang/Object;II)V" } : Jvm.MethodName)) ∈ uW := uW_of 1048 (by decide +kernel) rfl
theorem u_st_JY_arraycopy : (Jvm.Cond.static ({ cls := "java/lang/System", name := "arraycopy", desc := "(Ljava/lang/Object;ILjava/lang/Object;II)V" } : Jvm.MethodName)) ∈ uW := uW_of 1049 (by decide +kernel) rfl
theorem u_na_JY_arraycopy : (Jvm.Cond.native ({ cls := "java/lang/System", name := "arraycopy", desc := "(Ljava/lang/Object;ILjava/lang/Object;II)V" } : Jvm.MethodName)) ∈ uW := uW_of 1050 (by decide +kernel) rfl
theorem u_ml_X5_153 : (Jvm.Cond.methodLink "KitchenSpitsModel" (153 : Nat) ({ cls := "KitchenSpitsModel", name := "until", desc := "(IZ)I" } : Jvm.MethodName)) ∈ uW := uW_of 1051 (by decide +kernel) rfl
theorem u_im_X5_until : (Jvm.Cond.instanceMethod ({ cls := "KitchenSpitsModel", name := "until", desc := "(IZ)I" } : Jvm.MethodName)) ∈ uW := uW_of 1053 (by decide +kernel) rfl
theorem u_co_X5_until : (Jvm.Cond.code ({ cls := "KitchenSpitsModel", name := "until", desc := "(IZ)I" } : Jvm.MethodName) prog_7_method_65_code (4 : Nat) (Option.some Jvm.ClassFile.FieldType.int)) ∈ uW := uW_of 1054 (by decide +kernel) rfl
theorem u_ml_X5_147 : (Jvm.Cond.methodLink "KitchenSpitsModel" (147 : Nat) ({ cls := "KitchenSpitsModel", name := "bringBack", desc := "()V" } : Jvm.MethodName)) ∈ uW := uW_of 1055 (by decide +kernel) rfl
theorem u_im_X5_bringBack : (Jvm.Cond.instanceMethod ({ cls := "KitchenSpitsModel", name := "bringBack", desc := "()V" } : Jvm.MethodName)) ∈ uW := uW_of 1057 (by decide +kernel) rfl
theorem u_co_X5_bringBack : (Jvm.Cond.code ({ cls := "KitchenSpitsModel", name := "bringBack", desc := "()V" } : Jvm.MethodName) prog_7_method_16_code (1 : Nat) (Option.none : Option Jvm.ClassFile.FieldType)) ∈ uW := uW_of 1058 (by decide +kernel) rfl
theorem u_ml_L_236 : (Jvm.Cond.methodLink "KitchenSpitsLaw" (236 : Nat) ({ cls := "KitchenSpitsModel", name := "minutesUntilBurnt", desc := "(I)I" } : Jvm.MethodName)) ∈ uW := uW_of 1059 (by decide +kernel) rfl
theorem u_im_X5_minutesUntilBurnt : (Jvm.Cond.instanceMethod ({ cls := "KitchenSpitsModel", name := "minutesUntilBurnt", desc := "(I)I" } : Jvm.MethodName)) ∈ uW := uW_of 1060 (by decide +kernel) rfl
theorem u_se_X5_minutesUntilBurnt : (Jvm.Cond.selects "KitchenSpitsModel" ({ cls := "KitchenSpitsModel", name := "minutesUntilBurnt", desc := "(I)I" } : Jvm.MethodName) ({ cls := "KitchenSpitsModel", name := "minutesUntilBurnt", desc := "(I)I" } : Jvm.MethodName)) ∈ uW := uW_of 1061 (by decide +kernel) rfl
theorem u_co_X5_minutesUntilBurnt : (Jvm.Cond.code ({ cls := "KitchenSpitsModel", name := "minutesUntilBurnt", desc := "(I)I" } : Jvm.MethodName) prog_7_method_67_code (2 : Nat) (Option.some Jvm.ClassFile.FieldType.int)) ∈ uW := uW_of 1062 (by decide +kernel) rfl
theorem u_ml_L_240 : (Jvm.Cond.methodLink "KitchenSpitsLaw" (240 : Nat) ({ cls := "KitchenSpitsModel", name := "doneAtFeast", desc := "()I" } : Jvm.MethodName)) ∈ uW := uW_of 1063 (by decide +kernel) rfl
theorem u_im_X5_doneAtFeast : (Jvm.Cond.instanceMethod ({ cls := "KitchenSpitsModel", name := "doneAtFeast", desc := "()I" } : Jvm.MethodName)) ∈ uW := uW_of 1064 (by decide +kernel) rfl
theorem u_se_X5_doneAtFeast : (Jvm.Cond.selects "KitchenSpitsModel" ({ cls := "KitchenSpitsModel", name := "doneAtFeast", desc := "()I" } : Jvm.MethodName) ({ cls := "KitchenSpitsModel", name := "doneAtFeast", desc := "()I" } : Jvm.MethodName)) ∈ uW := uW_of 1065 (by decide +kernel) rfl
theorem u_co_X5_doneAtFeast : (Jvm.Cond.code ({ cls := "KitchenSpitsModel", name := "doneAtFeast", desc := "()I" } : Jvm.MethodName) prog_7_method_68_code (3 : Nat) (Option.some Jvm.ClassFile.FieldType.int)) ∈ uW := uW_of 1066 (by decide +kernel) rfl
theorem u_ml_L_243 : (Jvm.Cond.methodLink "KitchenSpitsLaw" (243 : Nat) ({ cls := "KitchenSpitsModel", name := "bestEach", desc := "(I)I" } : Jvm.MethodName)) ∈ uW := uW_of 1067 (by decide +kernel) rfl
theorem u_im_X5_bestEach : (Jvm.Cond.instanceMethod ({ cls := "KitchenSpitsModel", name := "bestEach", desc := "(I)I" } : Jvm.MethodName)) ∈ uW := uW_of 1068 (by decide +kernel) rfl
theorem u_se_X5_bestEach : (Jvm.Cond.selects "KitchenSpitsModel" ({ cls := "KitchenSpitsModel", name := "bestEach", desc := "(I)I" } : Jvm.MethodName) ({ cls := "KitchenSpitsModel", name := "bestEach", desc := "(I)I" } : Jvm.MethodName)) ∈ uW := uW_of 1069 (by decide +kernel) rfl
theorem u_co_X5_bestEach : (Jvm.Cond.code ({ cls := "KitchenSpitsModel", name := "bestEach", desc := "(I)I" } : Jvm.MethodName) prog_7_method_69_code (6 : Nat) (Option.some Jvm.ClassFile.FieldType.int)) ∈ uW := uW_of 1070 (by decide +kernel) rfl
theorem u_ml_L_246 : (Jvm.Cond.methodLink "KitchenSpitsLaw" (246 : Nat) ({ cls := "KitchenSpitsModel", name := "bestSpit", desc := "(I)I" } : Jvm.MethodName)) ∈ uW := uW_of 1071 (by decide +kernel) rfl
theorem u_im_X5_bestSpit : (Jvm.Cond.instanceMethod ({ cls := "KitchenSpitsModel", name := "bestSpit", desc := "(I)I" } : Jvm.MethodName)) ∈ uW := uW_of 1072 (by decide +kernel) rfl
theorem u_se_X5_bestSpit : (Jvm.Cond.selects "KitchenSpitsModel" ({ cls := "KitchenSpitsModel", name := "bestSpit", desc := "(I)I" } : Jvm.MethodName) ({ cls := "KitchenSpitsModel", name := "bestSpit", desc := "(I)I" } : Jvm.MethodName)) ∈ uW := uW_of 1073 (by decide +kernel) rfl
theorem u_co_X5_bestSpit : (Jvm.Cond.code ({ cls := "KitchenSpitsModel", name := "bestSpit", desc := "(I)I" } : Jvm.MethodName) prog_7_method_70_code (6 : Nat) (Option.some Jvm.ClassFile.FieldType.int)) ∈ uW := uW_of 1074 (by decide +kernel) rfl
theorem u_ml_L_251 : (Jvm.Cond.methodLink "KitchenSpitsLaw" (251 : Nat) ({ cls := "KitchenSpitsModel", name := "meanBrown", desc := "()D" } : Jvm.MethodName)) ∈ uW := uW_of 1075 (by decide +kernel) rfl
theorem u_im_X5_meanBrown : (Jvm.Cond.instanceMethod ({ cls := "KitchenSpitsModel", name := "meanBrown", desc := "()D" } : Jvm.MethodName)) ∈ uW := uW_of 1076 (by decide +kernel) rfl
theorem u_se_X5_meanBrown : (Jvm.Cond.selects "KitchenSpitsModel" ({ cls := "KitchenSpitsModel", name := "meanBrown", desc := "()D" } : Jvm.MethodName) ({ cls := "KitchenSpitsModel", name := "meanBrown", desc := "()D" } : Jvm.MethodName)) ∈ uW := uW_of 1077 (by decide +kernel) rfl
theorem u_co_X5_meanBrown : (Jvm.Cond.code ({ cls := "KitchenSpitsModel", name := "meanBrown", desc := "()D" } : Jvm.MethodName) prog_7_method_71_code (4 : Nat) (Option.some Jvm.ClassFile.FieldType.double)) ∈ uW := uW_of 1078 (by decide +kernel) rfl
theorem u_ml_L_256 : (Jvm.Cond.methodLink "KitchenSpitsLaw" (256 : Nat) ({ cls := "KitchenSpitsModel", name := "digest", desc := "()J" } : Jvm.MethodName)) ∈ uW := uW_of 1079 (by decide +kernel) rfl
theorem u_im_X5_digest : (Jvm.Cond.instanceMethod ({ cls := "KitchenSpitsModel", name := "digest", desc := "()J" } : Jvm.MethodName)) ∈ uW := uW_of 1080 (by decide +kernel) rfl
theorem u_se_X5_digest : (Jvm.Cond.selects "KitchenSpitsModel" ({ cls := "KitchenSpitsModel", name := "digest", desc := "()J" } : Jvm.MethodName) ({ cls := "KitchenSpitsModel", name := "digest", desc := "()J" } : Jvm.MethodName)) ∈ uW := uW_of 1081 (by decide +kernel) rfl
theorem u_co_X5_digest : (Jvm.Cond.code ({ cls := "KitchenSpitsModel", name := "digest", desc := "()J" } : Jvm.MethodName) prog_7_method_72_code (10 : Nat) (Option.some Jvm.ClassFile.FieldType.long)) ∈ uW := uW_of 1082 (by decide +kernel) rfl
theorem u_kl_X5_157 : (Jvm.Cond.constantLong "KitchenSpitsModel" (157 : Nat) (1951 : Int64)) ∈ uW := uW_of 1083 (by decide +kernel) rfl
theorem u_kl_X5_159 : (Jvm.Cond.constantLong "KitchenSpitsModel" (159 : Nat) (31 : Int64)) ∈ uW := uW_of 1084 (by decide +kernel) rfl
theorem u_ac_long : (Jvm.Cond.arrayClass Jvm.ClassFile.FieldType.long) ∈ uW := uW_of 1085 (by decide +kernel) rfl
end
section
/-! THE WORLD: 99 cells, all made once: the class's object (0), its two kitchens (1..45, 46..90), the reference (91..97), the law's own row (98). References between them never change; what changes is a number by cell and place: Kp. -/
abbrev Kp : Type := Nat → Nat → Int32
abbrev Gt : Type := va_G × (Nat → ClassId) × (Nat → Nat)
def up2 (κ : Kp) (k j : Nat) (v : Int32) : Kp := va_up κ k (va_up (κ k) j v)
theorem up2_at (κ : Kp) (k j : Nat) (v : Int32) (q i : Nat) : up2 κ k j v q i = if q = k ∧ i = j then v else κ q i := by
  unfold up2 va_up
  by_cases h1 : q = k
  · subst h1
    by_cases h2 : i = j
    · simp [h2]
    · simp [h2]
  · simp [h1]
theorem up2_self (κ : Kp) (k j : Nat) (v : Int32) : up2 κ k j v k j = v := by rw [up2_at]; simp
theorem up2_ne (κ : Kp) {k j : Nat} (v : Int32) {q i : Nat} (h : q ≠ k ∨ i ≠ j) : up2 κ k j v q i = κ q i := by
  rw [up2_at, if_neg]
  rintro ⟨a, b⟩
  rcases h with h | h
  · exact h a
  · exact h b
/-- the kind of a cell: 0 Fire, 1 Kitchen, 2 Roast, 3 Spit, 4 KitchenSpits, 5 the reference, 6.. rows -/
def kdL : List Nat := [4] ++ [1, 7, 8, 9, 0, 0, 0, 3, 3, 3, 3, 3, 3, 2, 6, 2, 6, 2, 6, 2, 6, 2, 6, 2, 6, 2, 6, 2, 6, 2, 6, 2, 6, 2, 6, 2, 6, 2, 6, 2, 6, 2, 6, 2, 6] ++ [1, 7, 8, 9, 0, 0, 0, 3, 3, 3, 3, 3, 3, 2, 6, 2, 6, 2, 6, 2, 6, 2, 6, 2, 6, 2, 6, 2, 6, 2, 6, 2, 6, 2, 6, 2, 6, 2, 6, 2, 6, 2, 6, 2, 6] ++ [5, 10, 11, 11, 12, 13, 13, 14]
def kd (k : Nat) : Nat := kdL.getD k 99
theorem kd_lt {k n : Nat} (h : kd k = n) (hn : n < 15) : k < 99 := by
  rcases Nat.lt_or_ge k 99 with q | q
  · exact q
  · have : kd k = 99 := by
      unfold kd
      rw [List.getD_eq_getElem?_getD, List.getElem?_eq_none (by simpa [kdL] using q)]
      rfl
    omega
/-- what a cell holds, by its kind: its numbers r, and the other cells by their addresses -/
def sh (c : Nat → ClassId) (ad : Nat → Nat) (k : Nat) (r : Nat → Int32) : va_E := match kd k with
  | 0 => .inr (0, [.int (r 0), .int (r 1), .int (r 2)])
  | 1 => .inr (1, [.ref (ad (k + 1)), .ref (ad (k + 2)), .ref (ad (k + 3)), .int (r 3), .int (r 4), .int (r 5), .int (r 6), .int (r 7)])
  | 2 => .inr (2, [.ref (ad (k + 1)), .int (r 1), .int (r 2), .int (r 3), .int (r 4), .int (r 5)])
  | 3 => .inr (3, [.int (r 0), .int (r 1), .int (r 2), .int (r 3), .int (r 4), .int (r 5)])
  | 4 => .inr (4, [.ref (ad (k + 1)), .ref (ad (k + 46))])
  | 5 => .inr (5, [.int (r 0), .int (r 1), .int (r 2), .int (r 3), .int (r 4), .ref (ad (k + 1)), .ref (ad (k + 2)), .ref (ad (k + 3)), .ref (ad (k + 4)), .ref (ad (k + 5)), .ref (ad (k + 6))])
  | 6 => .inl (c 0, 4, .inl r)
  | 7 => .inl (c 2, 3, .inr (.inr (.inr (.inr (fun i => some (ad (k + 3 + i)))))))
  | 8 => .inl (c 3, 6, .inr (.inr (.inr (.inr (fun i => some (ad (k + 5 + i)))))))
  | 9 => .inl (c 4, 16, .inr (.inr (.inr (.inr (fun i => some (ad (k + 10 + 2 * i)))))))
  | 10 => .inl (c 0, 6, .inl r)
  | 11 => .inl (c 0, 16, .inl r)
  | 12 => .inl (c 0, 3, .inl r)
  | 13 => .inl (c 0, 165, .inl r)
  | _ => .inl (c 1, 1, .inr (.inl (fun j => (r j).toInt64)))
section SH
variable {c : Nat → ClassId} {ad : Nat → Nat} {k : Nat} {r : Nat → Int32}
theorem sh0 (h : kd k = 0) : sh c ad k r = .inr (0, [.int (r 0), .int (r 1), .int (r 2)]) := by unfold sh; rw [h]; rfl
theorem sh1 (h : kd k = 1) : sh c ad k r = .inr (1, [.ref (ad (k + 1)), .ref (ad (k + 2)), .ref (ad (k + 3)), .int (r 3), .int (r 4), .int (r 5), .int (r 6), .int (r 7)]) := by unfold sh; rw [h]; rfl
theorem sh2 (h : kd k = 2) : sh c ad k r = .inr (2, [.ref (ad (k + 1)), .int (r 1), .int (r 2), .int (r 3), .int (r 4), .int (r 5)]) := by unfold sh; rw [h]; rfl
theorem sh3 (h : kd k = 3) : sh c ad k r = .inr (3, [.int (r 0), .int (r 1), .int (r 2), .int (r 3), .int (r 4), .int (r 5)]) := by unfold sh; rw [h]; rfl
theorem sh4 (h : kd k = 4) : sh c ad k r = .inr (4, [.ref (ad (k + 1)), .ref (ad (k + 46))]) := by unfold sh; rw [h]; rfl
theorem sh5 (h : kd k = 5) : sh c ad k r = .inr (5, [.int (r 0), .int (r 1), .int (r 2), .int (r 3), .int (r 4), .ref (ad (k + 1)), .ref (ad (k + 2)), .ref (ad (k + 3)), .ref (ad (k + 4)), .ref (ad (k + 5)), .ref (ad (k + 6))]) := by unfold sh; rw [h]; rfl
theorem sh6 (h : kd k = 6) : sh c ad k r = .inl (c 0, 4, .inl r) := by unfold sh; rw [h]; rfl
theorem sh7 (h : kd k = 7) : sh c ad k r = .inl (c 2, 3, .inr (.inr (.inr (.inr (fun i => some (ad (k + 3 + i))))))) := by unfold sh; rw [h]; rfl
theorem sh8 (h : kd k = 8) : sh c ad k r = .inl (c 3, 6, .inr (.inr (.inr (.inr (fun i => some (ad (k + 5 + i))))))) := by unfold sh; rw [h]; rfl
theorem sh9 (h : kd k = 9) : sh c ad k r = .inl (c 4, 16, .inr (.inr (.inr (.inr (fun i => some (ad (k + 10 + 2 * i))))))) := by unfold sh; rw [h]; rfl
theorem sh10 (h : kd k = 10) : sh c ad k r = .inl (c 0, 6, .inl r) := by unfold sh; rw [h]; rfl
theorem sh11 (h : kd k = 11) : sh c ad k r = .inl (c 0, 16, .inl r) := by unfold sh; rw [h]; rfl
theorem sh12 (h : kd k = 12) : sh c ad k r = .inl (c 0, 3, .inl r) := by unfold sh; rw [h]; rfl
theorem sh13 (h : kd k = 13) : sh c ad k r = .inl (c 0, 165, .inl r) := by unfold sh; rw [h]; rfl
theorem sh14 (h : kd k = 14) : sh c ad k r = .inl (c 1, 1, .inr (.inl (fun j => (r j).toInt64))) := by unfold sh; rw [h]; rfl
end SH
/-- the kinds of a kitchen's parts -/
theorem kd_kit : ∀ k, k < 99 → kd k = 1 → kd (k + 1) = 7 ∧ kd (k + 2) = 8 ∧ kd (k + 3) = 9 ∧ (∀ i, i < 3 → kd (k + 4 + i) = 0) ∧ (∀ i, i < 6 → kd (k + 7 + i) = 3) ∧ (∀ i, i < 16 → kd (k + 13 + 2 * i) = 2) ∧ (k = 1 ∨ k = 46) := by decide +kernel
theorem kd_roast : ∀ k, k < 99 → kd k = 2 → kd (k + 1) = 6 := by decide +kernel
section KD
variable {k i : Nat}
theorem kd1_7 (h : kd k = 1) : kd (k + 1) = 7 := (kd_kit k (kd_lt h (by decide)) h).1
theorem kd1_8 (h : kd k = 1) : kd (k + 2) = 8 := (kd_kit k (kd_lt h (by decide)) h).2.1
theorem kd1_9 (h : kd k = 1) : kd (k + 3) = 9 := (kd_kit k (kd_lt h (by decide)) h).2.2.1
theorem kd1_0 (h : kd k = 1) (hi : i < 3) : kd (k + 4 + i) = 0 := (kd_kit k (kd_lt h (by decide)) h).2.2.2.1 i hi
theorem kd1_3 (h : kd k = 1) (hi : i < 6) : kd (k + 7 + i) = 3 := (kd_kit k (kd_lt h (by decide)) h).2.2.2.2.1 i hi
theorem kd1_2 (h : kd k = 1) (hi : i < 16) : kd (k + 13 + 2 * i) = 2 := (kd_kit k (kd_lt h (by decide)) h).2.2.2.2.2.1 i hi
theorem kd1_or (h : kd k = 1) : k = 1 ∨ k = 46 := (kd_kit k (kd_lt h (by decide)) h).2.2.2.2.2.2
theorem kd2_6 (h : kd k = 2) : kd (k + 1) = 6 := kd_roast k (kd_lt h (by decide)) h
end KD
theorem kd_0 : kd 0 = 4 := by decide
theorem kd_1 : kd 1 = 1 := by decide
theorem kd_46 : kd 46 = 1 := by decide
theorem kd_91 : kd 91 = 5 := by decide
theorem kd_92 : kd 92 = 10 := by decide
theorem kd_93 : kd 93 = 11 := by decide
theorem kd_94 : kd 94 = 11 := by decide
theorem kd_95 : kd 95 = 12 := by decide
theorem kd_96 : kd 96 = 13 := by decide
theorem kd_97 : kd 97 = 13 := by decide
theorem kd_98 : kd 98 = 14 := by decide
def wl (g : Gt) (κ : Kp) : va_W := (List.range 99).map fun k => (g.2.2 k, sh g.2.1 g.2.2 k (κ k))
theorem wl_get (g : Gt) (κ : Kp) {k : Nat} (h : k < 99) : (wl g κ)[k]? = some (g.2.2 k, sh g.2.1 g.2.2 k (κ k)) := by
  simp only [wl, List.getElem?_map, List.getElem?_range h]; rfl
theorem wl_set (g : Gt) (κ : Kp) (k : Nat) (r : Nat → Int32) : (wl g κ).set k (g.2.2 k, sh g.2.1 g.2.2 k r) = wl g (va_up κ k r) := by
  apply List.ext_getElem?
  intro j
  by_cases hj : j = k
  · subst hj
    by_cases hl : j < 99
    · rw [List.getElem?_set_self (by simpa [wl] using hl), wl_get g _ hl, va_up_self]
    · rw [List.getElem?_eq_none (by simp [wl]; omega), List.getElem?_eq_none (by simp [wl]; omega)]
  · rw [List.getElem?_set_ne (Ne.symm hj)]
    by_cases hl : j < 99
    · rw [wl_get g _ hl, wl_get g _ hl, va_up_ne _ _ hj]
    · rw [List.getElem?_eq_none (by simp [wl]; omega), List.getElem?_eq_none (by simp [wl]; omega)]
def Inj (g : Gt) : Prop := ∀ i j, i < 99 → j < 99 → g.2.2 i = g.2.2 j → i = j
def fr (g : Gt) (sz : Nat) : Nat → Prop := fun q => (∃ k, k < 99 ∧ q = g.2.2 k) ∨ sz ≤ q
theorem wl_lt {g : Gt} {κ : Kp} {k : Nat} {q : Nat × va_E} (h : (wl g κ)[k]? = some q) : k < 99 ∧ q.1 = g.2.2 k := by
  have h1 := (List.getElem?_eq_some_iff.mp h).1
  have h2 : k < 99 := by simpa [wl] using h1
  rw [wl_get g κ h2] at h
  exact ⟨h2, by rw [← Option.some.inj h]⟩
theorem wl_D {g : Gt} (hi : Inj g) (κ : Kp) (sz : Nat) : va_D (fr g sz) (wl g κ) := by
  refine ⟨fun i j p q h1 h2 e => ?_, fun k q h => ?_⟩
  · obtain ⟨a1, b1⟩ := wl_lt h1
    obtain ⟨a2, b2⟩ := wl_lt h2
    exact hi i j a1 a2 (by rw [← b1, ← b2]; exact e)
  · obtain ⟨a1, b1⟩ := wl_lt h
    exact Or.inl ⟨k, a1, b1⟩
def tyl (c : Nat → ClassId) : List (ClassId × FieldType) := [(c 0, .int), (c 1, .long), (c 2, .object "KitchenSpits$Fire"), (c 3, .object "KitchenSpits$Spit"), (c 4, .object "KitchenSpits$Roast")]
def nISE : String := "java/lang/IllegalStateException"
def nIAE : String := "java/lang/IllegalArgumentException"
def nIOE : String := "java/lang/IndexOutOfBoundsException"
/-- words of the tables that aren't good ones, but hold through calls all the same -/
def nwl : List Cond := [.castable nISE nISE, .castable nIAE nIAE, .castable nIOE nIOE, .declares ⟨"java/lang/RuntimeException", "<init>", "(Ljava/lang/String;)V"⟩, .declares ⟨"java/lang/Exception", "<init>", "(Ljava/lang/String;)V"⟩, .declares ⟨"java/lang/Throwable", "<init>", "(Ljava/lang/String;)V"⟩]
theorem nwl_warm {w : Cond} (h : w ∈ nwl) {s U : State} (hW : s.WarmedH U.vm) (hz : va_Nw w s) : va_Nw w U := by
  simp only [nwl, List.mem_cons, List.not_mem_nil, or_false] at h
  rcases h with rfl | rfl | rfl | rfl | rfl | rfl
  · exact va_Nw.warmC hW hz
  · exact va_Nw.warmC hW hz
  · exact va_Nw.warmC hW hz
  · exact va_Nw.warmD hW hz
  · exact va_Nw.warmD hW hz
  · exact va_Nw.warmD hW hz
theorem nwl_tab {w : Cond} (h : w ∈ nwl) : w.onTables = true := by
  simp only [nwl, List.mem_cons, List.not_mem_nil, or_false] at h
  rcases h with rfl | rfl | rfl | rfl | rfl | rfl <;> rfl
def strl : List (Nat × String) := [(25, "there are 3 fires"), (213, "there is no such fire"), (36, "logs is not 1 to 40"), (227, "feet is not 1 to 3"), (58, "there are 6 spits"), (218, "there is no such spit"), (69, "minutes is not 0 to 9"), (77, "minute is not 0 to 5000"), (229, "pounds is not 1 to 12"), (88, "the spit has a roast, or 16 roasts were hung already"), (225, "the spit has no roast"), (105, "the pan has less than 2 drippings"), (116, "minutes is not 1 to 200"), (223, "there is no such roast"), (157, "side is not 0 to 3"), (186, "16 roasts were hung already")]
/-- what holds besides the cells: the tables' classes, the addresses apart, what a throw needs -/
def Env0 (U : State) : Prop := (∀ w ∈ nwl, va_Nw w U) ∧ (∀ q ∈ strl, ∃ a, vk_R RX4 q.1 q.2 a U) ∧ va_Nc nIAE nIOE U ∧ va_Nc nISE nIOE U ∧ va_Nc nISE nIAE U
def Zs (A : Nat → Prop) (U : State) (H : Heap) : Prop := vx_Zq Bundle.tN "UNASSIGNED_STACK" Bundle.steD A U H ∧ vx_Zq Bundle.tN "SUPPRESSED_SENTINEL" Bundle.listD A U H
def Env1 (g : Gt) (U : State) : Prop := va_K g.1 vwCl (tyl g.2.1) U ∧ Inj g ∧ Env0 U ∧ Zs (fr g U.heap.size) U U.heap
def Wp (g : Gt) (κ : Kp) (U : State) : Prop := va_P g.1 vwCl (wl g κ) U.heap
def Wd (g : Gt) (κ : Kp) (U : State) : Prop := Wp g κ U ∧ Env1 g U
theorem Env0.warm {s U : State} (hW : s.WarmedH U.vm) (h : Env0 s) : Env0 U :=
  ⟨fun w hw => nwl_warm hw hW (h.1 w hw), fun q hq => by obtain ⟨a, ha⟩ := h.2.1 q hq; exact ⟨a, vk_R.warm hW ha⟩, va_Nc.moved hW.alike h.2.2.1, va_Nc.moved hW.alike h.2.2.2.1, va_Nc.moved hW.alike h.2.2.2.2⟩
theorem Env0.same {s U : State} (e : s.vm = U.vm) (h : Env0 s) : Env0 U :=
  ⟨fun w hw => va_Nw.same (nwl_tab hw) e (h.1 w hw), fun q hq => by obtain ⟨a, ha⟩ := h.2.1 q hq; exact ⟨a, vk_R.same e.symm ha⟩, va_Nc.moved (by rw [e]; exact Vm.Alike.refl _) h.2.2.1, va_Nc.moved (by rw [e]; exact Vm.Alike.refl _) h.2.2.2.1, va_Nc.moved (by rw [e]; exact Vm.Alike.refl _) h.2.2.2.2⟩
theorem Wd.blind {g : Gt} {κ : Kp} {U : State} (a : Array Value) (f : JFrame) (mk : MethodId) (h : Wd g κ U) : Wd g κ (U.calling f mk a) := by
  obtain ⟨h1, hK, hi, h0, hz⟩ := h
  have hal : U.vm.Alike (U.calling f mk a).vm := Vm.Alike.refl U.vm
  refine ⟨h1, va_K.moved hal hK, hi, Env0.same (s := U) (U := U.calling f mk a) rfl h0, vx_Zq.moved hal hz.1, vx_Zq.moved hal hz.2⟩
/-- in a method: the cells now, and what has been written since its start -/
def Ws (g : Gt) (s : State) (κ : Kp) (H : Heap) (locs : List Loc) : Prop := va_P g.1 vwCl (wl g κ) H ∧ va_S (fr g s.heap.size) s.heap H locs
theorem Wd.warm {g : Gt} {κ : Kp} {s U : State} {H : Heap} {locs : List Loc} (hE : Env1 g s) (hw : Ws g s κ H locs) (hU : U.heap = H) (hW : s.WarmedH U.vm) : Wd g κ U := by
  obtain ⟨hK, hi, h0, hz⟩ := hE
  have hA : ∀ q, fr g U.heap.size q → fr g s.heap.size q := by
    intro q h
    rcases h with h | h
    · exact Or.inl h
    · exact Or.inr (Nat.le_trans hw.2.1 (by rw [← hU]; exact h))
  refine ⟨by show va_P _ _ _ U.heap; rw [hU]; exact hw.1, va_K.moved hW.alike hK, hi, h0.warm hW, ?_, ?_⟩
  · rw [hU] at hA ⊢
    exact (vx_Zq.moved hW.alike (hz.1.kept hw.2.2.1)).narrow hA
  · rw [hU] at hA ⊢
    exact (vx_Zq.moved hW.alike (hz.2.kept hw.2.2.1)).narrow hA
def PRE (g : Gt) (κ : Kp) (sz : Nat) (av : List Value) : Array Value → State → Prop := va_Pc av (fun U => U.heap.size = sz ∧ Wd g κ U)
theorem PRE.blind {g : Gt} {κ : Kp} {sz : Nat} {av : List Value} : FrameBlind (PRE g κ sz av) := fun a U f mk h => ⟨h.1, h.2.1, h.2.2.blind a f mk⟩
def Mc (g : Gt) (p : Program) (s : State) (m : MethodId) (args : Array Value) (meth : Method) (c : Code) (cc : ByteArray) (nL : Nat) (own : String) : Prop :=
  CallFix p m c cc nL s args uW own ∧ Env1 g s ∧ meth.locks = false
end
section
def bi (b : Bool) : Int32 := if b then 1 else 0
theorem bi_narrow (b : Bool) : narrow .boolean (.int (bi b)) = .int (bi b) := by cases b <;> rfl
section KR
variable {p : Program} {l : Launch} {e : Env} {R : Room} {s : State} {m : MethodId} {args : Array Value} {below : List Frame} {meth : Method} {c : Code} {H : Heap} {locs : List Loc} {cells slots : Nat} {Q : State → Prop}
variable {cc : ByteArray} {pc nL : Nat} {ls : Array Slot} {rest : List Value} {g : Gt} {κ : Kp} {own : String}
theorem Mc.x (hM : Mc g p s m args meth c cc nL own) : p.tables.exec = Jvm.exec := hM.1.1
theorem Mc.b (hM : Mc g p s m args meth c cc nL own) : c.code = cc := hM.1.2.1
theorem Mc.ml (hM : Mc g p s m args meth c cc nL own) : c.maxLocals = nL := hM.1.2.2.1
theorem Mc.ow (hM : Mc g p s m args meth c cc nL own) : s.vm.findClass own = some m.cls := hM.1.2.2.2.1
theorem Mc.ts (hM : Mc g p s m args meth c cc nL own) : ∀ w ∈ uW, w.before args s = true := hM.1.2.2.2.2
theorem Mc.K (hM : Mc g p s m args meth c cc nL own) : va_K g.1 vwCl (tyl g.2.1) s := hM.2.1.1
theorem Mc.I (hM : Mc g p s m args meth c cc nL own) : Inj g := hM.2.1.2.1
/-- a number field of a cell -/
theorem k_get {ci idx : Nat} {C : String} {T : u_T} {N k : Nat} {fs : List Value} {v : Value} (hM : Mc g p s m args meth c cc nL own) (hw : Ws g s κ H locs) (hk : k < 99) (hsh : sh g.2.1 g.2.2 k (κ k) = .inr (ci, fs)) (hc : vwCl[ci]? = some (C, T, N)) (hin : ∀ w ∈ u_ws C T N, w ∈ uW) (j : Nat) (hj : j < N)
    (hlink : Cond.fieldLink own idx (T j).1 (T j).2.1 (T j).2.2.1 ∈ uW) (hv : fs[j]? = some v) (hdg : decode cc pc = .ok (.getfield idx, 3))
    (kk : W p l e R s m args below meth c H locs cells slots Q (F0 m (pc + 3) ls (v :: rest))) : W p l e R s m args below meth c H locs cells slots Q (F0 m pc ls (.ref (g.2.2 k) :: rest)) :=
  va_get hM.x hM.b hM.ts hin hM.ow hM.K hw.1 k (by rw [wl_get g κ hk, hsh]) hc j hj (hM.ts _ hlink) (fun _ h => h) hv hdg kk
theorem k_put {ci idx : Nat} {C : String} {T : u_T} {N k : Nat} {fs : List Value} {x : Int32} (hM : Mc g p s m args meth c cc nL own) (hw : Ws g s κ H locs) (hk : k < 99) (hsh : sh g.2.1 g.2.2 k (κ k) = .inr (ci, fs)) (hc : vwCl[ci]? = some (C, T, N)) (hin : ∀ w ∈ u_ws C T N, w ∈ uW) (ty0 : Nat → FieldType) (hty : ∀ k, k < N → parseFieldDescriptor (T k).2.2.1 = some (ty0 k)) (hnm : ∀ a, a < N → ∀ b, b < N → a ≠ b → (T a).2.1 ≠ (T b).2.1) (j : Nat) (hj : j < N)
    (hlink : Cond.fieldLink own idx (T j).1 (T j).2.1 (T j).2.2.1 ∈ uW) (hfin : (T j).2.2.2 = false) (hd : parseFieldDescriptor (T j).2.2.1 = some .int) (hl : j < fs.length) (hset : sh g.2.1 g.2.2 k (va_up (κ k) j x) = .inr (ci, fs.set j (.int x))) (hdg : decode cc pc = .ok (.putfield idx, 3))
    (kk : ∀ (H1 : Heap) (locs1 : List Loc), Ws g s (up2 κ k j x) H1 locs1 → W p l e R s m args below meth c H1 locs1 cells slots Q (F0 m (pc + 3) ls rest)) : W p l e R s m args below meth c H locs cells slots Q (F0 m pc ls (.int x :: .ref (g.2.2 k) :: rest)) := by
  refine va_put hM.x hM.b hM.ts hin ty0 hty hnm hM.ow hM.K hw.1 (wl_D hM.I κ s.heap.size) hw.2 k (by rw [wl_get g κ hk, hsh]) hc j hj (hM.ts _ hlink) (fun _ h => h) hfin hd rfl rfl hl hdg (fun H1 locs1 hP hD hS => kk H1 locs1 ⟨?_, hS⟩)
  rw [← hset, wl_set] at hP
  exact hP
end KR
theorem inW0 : ∀ w ∈ u_ws RX0 TX0 3, w ∈ uW := fun w h => List.mem_filter.mpr ⟨(by decide +kernel : ∀ w ∈ u_ws RX0 TX0 3, w ∈ lw_tbl) w h, (by decide +kernel : ∀ w ∈ u_ws RX0 TX0 3, goodWord w = true) w h⟩
theorem inW1 : ∀ w ∈ u_ws RX1 TX1 8, w ∈ uW := fun w h => List.mem_filter.mpr ⟨(by decide +kernel : ∀ w ∈ u_ws RX1 TX1 8, w ∈ lw_tbl) w h, (by decide +kernel : ∀ w ∈ u_ws RX1 TX1 8, goodWord w = true) w h⟩
theorem inW2 : ∀ w ∈ u_ws RX2 TX2 6, w ∈ uW := fun w h => List.mem_filter.mpr ⟨(by decide +kernel : ∀ w ∈ u_ws RX2 TX2 6, w ∈ lw_tbl) w h, (by decide +kernel : ∀ w ∈ u_ws RX2 TX2 6, goodWord w = true) w h⟩
theorem inW3 : ∀ w ∈ u_ws RX3 TX3 6, w ∈ uW := fun w h => List.mem_filter.mpr ⟨(by decide +kernel : ∀ w ∈ u_ws RX3 TX3 6, w ∈ lw_tbl) w h, (by decide +kernel : ∀ w ∈ u_ws RX3 TX3 6, goodWord w = true) w h⟩
theorem inW4 : ∀ w ∈ u_ws RX4 TX4 2, w ∈ uW := fun w h => List.mem_filter.mpr ⟨(by decide +kernel : ∀ w ∈ u_ws RX4 TX4 2, w ∈ lw_tbl) w h, (by decide +kernel : ∀ w ∈ u_ws RX4 TX4 2, goodWord w = true) w h⟩
theorem inW5 : ∀ w ∈ u_ws RX5 TX5 11, w ∈ uW := fun w h => List.mem_filter.mpr ⟨(by decide +kernel : ∀ w ∈ u_ws RX5 TX5 11, w ∈ lw_tbl) w h, (by decide +kernel : ∀ w ∈ u_ws RX5 TX5 11, goodWord w = true) w h⟩
section KR2
variable {p : Program} {l : Launch} {e : Env} {R : Room} {s : State} {m : MethodId} {args : Array Value} {below : List Frame} {meth : Method} {c : Code} {H : Heap} {locs : List Loc} {cells slots : Nat} {Q : State → Prop}
variable {cc : ByteArray} {pc nL : Nat} {ls : Array Slot} {rest : List Value} {g : Gt} {κ : Kp} {own : String} {idx k : Nat}
-- Fire
theorem k_get0 (j : Nat) (hM : Mc g p s m args meth c cc nL own) (hw : Ws g s κ H locs) (h : kd k = 0) (hj : j < 3) (hlink : Cond.fieldLink own idx (TX0 j).1 (TX0 j).2.1 (TX0 j).2.2.1 ∈ uW) (hdg : decode cc pc = .ok (.getfield idx, 3))
    (kk : W p l e R s m args below meth c H locs cells slots Q (F0 m (pc + 3) ls (.int (κ k j) :: rest))) : W p l e R s m args below meth c H locs cells slots Q (F0 m pc ls (.ref (g.2.2 k) :: rest)) :=
  k_get (C := RX0) (T := TX0) (N := 3) hM hw (kd_lt h (by decide)) (sh0 h) rfl inW0 j hj hlink (by match j, hj with | 0, _ => rfl | 1, _ => rfl | 2, _ => rfl) hdg kk
theorem k_put0 (j : Nat) {x : Int32} (hM : Mc g p s m args meth c cc nL own) (hw : Ws g s κ H locs) (h : kd k = 0) (hj : j < 3) (hlink : Cond.fieldLink own idx (TX0 j).1 (TX0 j).2.1 (TX0 j).2.2.1 ∈ uW) (hdg : decode cc pc = .ok (.putfield idx, 3))
    (kk : ∀ (H1 : Heap) (locs1 : List Loc), Ws g s (up2 κ k j x) H1 locs1 → W p l e R s m args below meth c H1 locs1 cells slots Q (F0 m (pc + 3) ls rest)) : W p l e R s m args below meth c H locs cells slots Q (F0 m pc ls (.int x :: .ref (g.2.2 k) :: rest)) :=
  k_put (C := RX0) (T := TX0) (N := 3) hM hw (kd_lt h (by decide)) (sh0 h) rfl inW0 tyX0 tyX0_ok nmX0 j hj hlink (by match j, hj with | 0, _ => rfl | 1, _ => rfl | 2, _ => rfl) (by match j, hj with | 0, _ => exact tyX0_ok 0 (by decide) | 1, _ => exact tyX0_ok 1 (by decide) | 2, _ => exact tyX0_ok 2 (by decide)) hj (by rw [sh0 h]; match j, hj with | 0, _ => rfl | 1, _ => rfl | 2, _ => rfl) hdg kk
-- Spit
theorem k_get3 (j : Nat) (hM : Mc g p s m args meth c cc nL own) (hw : Ws g s κ H locs) (h : kd k = 3) (hj : j < 6) (hlink : Cond.fieldLink own idx (TX3 j).1 (TX3 j).2.1 (TX3 j).2.2.1 ∈ uW) (hdg : decode cc pc = .ok (.getfield idx, 3))
    (kk : W p l e R s m args below meth c H locs cells slots Q (F0 m (pc + 3) ls (.int (κ k j) :: rest))) : W p l e R s m args below meth c H locs cells slots Q (F0 m pc ls (.ref (g.2.2 k) :: rest)) :=
  k_get (C := RX3) (T := TX3) (N := 6) hM hw (kd_lt h (by decide)) (sh3 h) rfl inW3 j hj hlink (by match j, hj with | 0, _ => rfl | 1, _ => rfl | 2, _ => rfl | 3, _ => rfl | 4, _ => rfl | 5, _ => rfl) hdg kk
theorem k_put3 (j : Nat) {x : Int32} (hM : Mc g p s m args meth c cc nL own) (hw : Ws g s κ H locs) (h : kd k = 3) (hj : j < 6) (hlink : Cond.fieldLink own idx (TX3 j).1 (TX3 j).2.1 (TX3 j).2.2.1 ∈ uW) (hdg : decode cc pc = .ok (.putfield idx, 3))
    (kk : ∀ (H1 : Heap) (locs1 : List Loc), Ws g s (up2 κ k j x) H1 locs1 → W p l e R s m args below meth c H1 locs1 cells slots Q (F0 m (pc + 3) ls rest)) : W p l e R s m args below meth c H locs cells slots Q (F0 m pc ls (.int x :: .ref (g.2.2 k) :: rest)) :=
  k_put (C := RX3) (T := TX3) (N := 6) hM hw (kd_lt h (by decide)) (sh3 h) rfl inW3 tyX3 tyX3_ok nmX3 j hj hlink (by match j, hj with | 0, _ => rfl | 1, _ => rfl | 2, _ => rfl | 3, _ => rfl | 4, _ => rfl | 5, _ => rfl) (by match j, hj with | 0, _ => exact tyX3_ok 0 (by decide) | 1, _ => exact tyX3_ok 1 (by decide) | 2, _ => exact tyX3_ok 2 (by decide) | 3, _ => exact tyX3_ok 3 (by decide) | 4, _ => exact tyX3_ok 4 (by decide) | 5, _ => exact tyX3_ok 5 (by decide)) hj (by rw [sh3 h]; match j, hj with | 0, _ => rfl | 1, _ => rfl | 2, _ => rfl | 3, _ => rfl | 4, _ => rfl | 5, _ => rfl) hdg kk
-- Roast: field 0 is its row
theorem k_get2 (j : Nat) (hM : Mc g p s m args meth c cc nL own) (hw : Ws g s κ H locs) (h : kd k = 2) (hj : 0 < j ∧ j < 6) (hlink : Cond.fieldLink own idx (TX2 j).1 (TX2 j).2.1 (TX2 j).2.2.1 ∈ uW) (hdg : decode cc pc = .ok (.getfield idx, 3))
    (kk : W p l e R s m args below meth c H locs cells slots Q (F0 m (pc + 3) ls (.int (κ k j) :: rest))) : W p l e R s m args below meth c H locs cells slots Q (F0 m pc ls (.ref (g.2.2 k) :: rest)) :=
  k_get (C := RX2) (T := TX2) (N := 6) hM hw (kd_lt h (by decide)) (sh2 h) rfl inW2 j hj.2 hlink (by match j, hj with | 1, _ => rfl | 2, _ => rfl | 3, _ => rfl | 4, _ => rfl | 5, _ => rfl) hdg kk
theorem k_get2r (hM : Mc g p s m args meth c cc nL own) (hw : Ws g s κ H locs) (h : kd k = 2) (hlink : Cond.fieldLink own idx (TX2 0).1 (TX2 0).2.1 (TX2 0).2.2.1 ∈ uW) (hdg : decode cc pc = .ok (.getfield idx, 3))
    (kk : W p l e R s m args below meth c H locs cells slots Q (F0 m (pc + 3) ls (.ref (g.2.2 (k + 1)) :: rest))) : W p l e R s m args below meth c H locs cells slots Q (F0 m pc ls (.ref (g.2.2 k) :: rest)) :=
  k_get (C := RX2) (T := TX2) (N := 6) hM hw (kd_lt h (by decide)) (sh2 h) rfl inW2 0 (by decide) hlink rfl hdg kk
theorem k_put2 (j : Nat) {x : Int32} (hM : Mc g p s m args meth c cc nL own) (hw : Ws g s κ H locs) (h : kd k = 2) (hj : 0 < j ∧ j < 6) (hlink : Cond.fieldLink own idx (TX2 j).1 (TX2 j).2.1 (TX2 j).2.2.1 ∈ uW) (hdg : decode cc pc = .ok (.putfield idx, 3))
    (kk : ∀ (H1 : Heap) (locs1 : List Loc), Ws g s (up2 κ k j x) H1 locs1 → W p l e R s m args below meth c H1 locs1 cells slots Q (F0 m (pc + 3) ls rest)) : W p l e R s m args below meth c H locs cells slots Q (F0 m pc ls (.int x :: .ref (g.2.2 k) :: rest)) :=
  k_put (C := RX2) (T := TX2) (N := 6) hM hw (kd_lt h (by decide)) (sh2 h) rfl inW2 tyX2 tyX2_ok nmX2 j hj.2 hlink (by match j, hj with | 1, _ => rfl | 2, _ => rfl | 3, _ => rfl | 4, _ => rfl | 5, _ => rfl) (by match j, hj with | 1, _ => exact tyX2_ok 1 (by decide) | 2, _ => exact tyX2_ok 2 (by decide) | 3, _ => exact tyX2_ok 3 (by decide) | 4, _ => exact tyX2_ok 4 (by decide) | 5, _ => exact tyX2_ok 5 (by decide)) hj.2 (by rw [sh2 h]; match j, hj with | 1, _ => rfl | 2, _ => rfl | 3, _ => rfl | 4, _ => rfl | 5, _ => rfl) hdg kk
-- Kitchen: fields 0, 1, 2 are its rows
theorem k_get1 (j : Nat) (hM : Mc g p s m args meth c cc nL own) (hw : Ws g s κ H locs) (h : kd k = 1) (hj : 2 < j ∧ j < 8) (hlink : Cond.fieldLink own idx (TX1 j).1 (TX1 j).2.1 (TX1 j).2.2.1 ∈ uW) (hdg : decode cc pc = .ok (.getfield idx, 3))
    (kk : W p l e R s m args below meth c H locs cells slots Q (F0 m (pc + 3) ls (.int (κ k j) :: rest))) : W p l e R s m args below meth c H locs cells slots Q (F0 m pc ls (.ref (g.2.2 k) :: rest)) :=
  k_get (C := RX1) (T := TX1) (N := 8) hM hw (kd_lt h (by decide)) (sh1 h) rfl inW1 j hj.2 hlink (by match j, hj with | 3, _ => rfl | 4, _ => rfl | 5, _ => rfl | 6, _ => rfl | 7, _ => rfl) hdg kk
theorem k_get1r (j : Nat) (hM : Mc g p s m args meth c cc nL own) (hw : Ws g s κ H locs) (h : kd k = 1) (hj : j < 3) (hlink : Cond.fieldLink own idx (TX1 j).1 (TX1 j).2.1 (TX1 j).2.2.1 ∈ uW) (hdg : decode cc pc = .ok (.getfield idx, 3))
    (kk : W p l e R s m args below meth c H locs cells slots Q (F0 m (pc + 3) ls (.ref (g.2.2 (k + (j + 1))) :: rest))) : W p l e R s m args below meth c H locs cells slots Q (F0 m pc ls (.ref (g.2.2 k) :: rest)) :=
  k_get (C := RX1) (T := TX1) (N := 8) hM hw (kd_lt h (by decide)) (sh1 h) rfl inW1 j (by omega) hlink (by match j, hj with | 0, _ => rfl | 1, _ => rfl | 2, _ => rfl) hdg kk
theorem k_put1 (j : Nat) {x : Int32} (hM : Mc g p s m args meth c cc nL own) (hw : Ws g s κ H locs) (h : kd k = 1) (hj : 2 < j ∧ j < 8) (hlink : Cond.fieldLink own idx (TX1 j).1 (TX1 j).2.1 (TX1 j).2.2.1 ∈ uW) (hdg : decode cc pc = .ok (.putfield idx, 3))
    (kk : ∀ (H1 : Heap) (locs1 : List Loc), Ws g s (up2 κ k j x) H1 locs1 → W p l e R s m args below meth c H1 locs1 cells slots Q (F0 m (pc + 3) ls rest)) : W p l e R s m args below meth c H locs cells slots Q (F0 m pc ls (.int x :: .ref (g.2.2 k) :: rest)) :=
  k_put (C := RX1) (T := TX1) (N := 8) hM hw (kd_lt h (by decide)) (sh1 h) rfl inW1 tyX1 tyX1_ok nmX1 j hj.2 hlink (by match j, hj with | 3, _ => rfl | 4, _ => rfl | 5, _ => rfl | 6, _ => rfl | 7, _ => rfl) (by match j, hj with | 3, _ => exact tyX1_ok 3 (by decide) | 4, _ => exact tyX1_ok 4 (by decide) | 5, _ => exact tyX1_ok 5 (by decide) | 6, _ => exact tyX1_ok 6 (by decide) | 7, _ => exact tyX1_ok 7 (by decide)) hj.2 (by rw [sh1 h]; match j, hj with | 3, _ => rfl | 4, _ => rfl | 5, _ => rfl | 6, _ => rfl | 7, _ => rfl) hdg kk
-- KitchenSpits: the object 0
theorem k_get4a (hM : Mc g p s m args meth c cc nL own) (hw : Ws g s κ H locs) (hlink : Cond.fieldLink own idx (TX4 0).1 (TX4 0).2.1 (TX4 0).2.2.1 ∈ uW) (hdg : decode cc pc = .ok (.getfield idx, 3))
    (kk : W p l e R s m args below meth c H locs cells slots Q (F0 m (pc + 3) ls (.ref (g.2.2 1) :: rest))) : W p l e R s m args below meth c H locs cells slots Q (F0 m pc ls (.ref (g.2.2 0) :: rest)) :=
  k_get (C := RX4) (T := TX4) (N := 2) hM hw (by decide) (sh4 kd_0) rfl inW4 0 (by decide) hlink rfl hdg kk
theorem k_get4b (hM : Mc g p s m args meth c cc nL own) (hw : Ws g s κ H locs) (hlink : Cond.fieldLink own idx (TX4 1).1 (TX4 1).2.1 (TX4 1).2.2.1 ∈ uW) (hdg : decode cc pc = .ok (.getfield idx, 3))
    (kk : W p l e R s m args below meth c H locs cells slots Q (F0 m (pc + 3) ls (.ref (g.2.2 46) :: rest))) : W p l e R s m args below meth c H locs cells slots Q (F0 m pc ls (.ref (g.2.2 0) :: rest)) :=
  k_get (C := RX4) (T := TX4) (N := 2) hM hw (by decide) (sh4 kd_0) rfl inW4 1 (by decide) hlink rfl hdg kk
-- the reference: the object 91, fields 5.. its rows at 92..
theorem k_get5 (j : Nat) (hM : Mc g p s m args meth c cc nL own) (hw : Ws g s κ H locs) (hj : j < 5) (hlink : Cond.fieldLink own idx (TX5 j).1 (TX5 j).2.1 (TX5 j).2.2.1 ∈ uW) (hdg : decode cc pc = .ok (.getfield idx, 3))
    (kk : W p l e R s m args below meth c H locs cells slots Q (F0 m (pc + 3) ls (.int (κ 91 j) :: rest))) : W p l e R s m args below meth c H locs cells slots Q (F0 m pc ls (.ref (g.2.2 91) :: rest)) :=
  k_get (C := RX5) (T := TX5) (N := 11) hM hw (by decide) (sh5 kd_91) rfl inW5 j (by omega) hlink (by match j, hj with | 0, _ => rfl | 1, _ => rfl | 2, _ => rfl | 3, _ => rfl | 4, _ => rfl) hdg kk
theorem k_get5r (j : Nat) (hM : Mc g p s m args meth c cc nL own) (hw : Ws g s κ H locs) (hj : j < 6) (hlink : Cond.fieldLink own idx (TX5 (j + 5)).1 (TX5 (j + 5)).2.1 (TX5 (j + 5)).2.2.1 ∈ uW) (hdg : decode cc pc = .ok (.getfield idx, 3))
    (kk : W p l e R s m args below meth c H locs cells slots Q (F0 m (pc + 3) ls (.ref (g.2.2 (j + 92)) :: rest))) : W p l e R s m args below meth c H locs cells slots Q (F0 m pc ls (.ref (g.2.2 91) :: rest)) :=
  k_get (C := RX5) (T := TX5) (N := 11) hM hw (by decide) (sh5 kd_91) rfl inW5 (j + 5) (by omega) hlink (by match j, hj with | 0, _ => rfl | 1, _ => rfl | 2, _ => rfl | 3, _ => rfl | 4, _ => rfl | 5, _ => rfl) hdg kk
theorem k_put5 (j : Nat) {x : Int32} (hM : Mc g p s m args meth c cc nL own) (hw : Ws g s κ H locs) (hj : j < 5) (hlink : Cond.fieldLink own idx (TX5 j).1 (TX5 j).2.1 (TX5 j).2.2.1 ∈ uW) (hdg : decode cc pc = .ok (.putfield idx, 3))
    (kk : ∀ (H1 : Heap) (locs1 : List Loc), Ws g s (up2 κ 91 j x) H1 locs1 → W p l e R s m args below meth c H1 locs1 cells slots Q (F0 m (pc + 3) ls rest)) : W p l e R s m args below meth c H locs cells slots Q (F0 m pc ls (.int x :: .ref (g.2.2 91) :: rest)) :=
  k_put (C := RX5) (T := TX5) (N := 11) hM hw (by decide) (sh5 kd_91) rfl inW5 tyX5 tyX5_ok nmX5 j (by omega) hlink (by match j, hj with | 0, _ => rfl | 1, _ => rfl | 2, _ => rfl | 3, _ => rfl | 4, _ => rfl) (by match j, hj with | 0, _ => exact tyX5_ok 0 (by decide) | 1, _ => exact tyX5_ok 1 (by decide) | 2, _ => exact tyX5_ok 2 (by decide) | 3, _ => exact tyX5_ok 3 (by decide) | 4, _ => exact tyX5_ok 4 (by decide)) (by show j < 11; omega) (by rw [sh5 kd_91]; match j, hj with | 0, _ => rfl | 1, _ => rfl | 2, _ => rfl | 3, _ => rfl | 4, _ => rfl) hdg kk
-- rows of numbers
theorem k_iald {n : Nat} {i : Int32} (hM : Mc g p s m args meth c cc nL own) (hw : Ws g s κ H locs) (hk : k < 99) (hsh : sh g.2.1 g.2.2 k (κ k) = .inl (g.2.1 0, n, .inl (κ k))) (hin : vp_in i n) (hdg : decode cc pc = .ok (.iaload, 1))
    (kk : W p l e R s m args below meth c H locs cells slots Q (F0 m (pc + 1) ls (.int (κ k i.toNatClampNeg) :: rest))) : W p l e R s m args below meth c H locs cells slots Q (F0 m pc ls (.int i :: .ref (g.2.2 k) :: rest)) :=
  va_iald hM.x hM.b hM.K hw.1 k 0 (by rw [wl_get g κ hk, hsh]) rfl hin hdg kk
theorem k_iast {n : Nat} {i x : Int32} (hM : Mc g p s m args meth c cc nL own) (hw : Ws g s κ H locs) (hk : k < 99) (hsh : ∀ r : Nat → Int32, sh g.2.1 g.2.2 k r = .inl (g.2.1 0, n, .inl r)) (hin : vp_in i n) (hdg : decode cc pc = .ok (.iastore, 1))
    (kk : ∀ (H1 : Heap) (locs1 : List Loc), Ws g s (up2 κ k i.toNatClampNeg x) H1 locs1 → W p l e R s m args below meth c H1 locs1 cells slots Q (F0 m (pc + 1) ls rest)) : W p l e R s m args below meth c H locs cells slots Q (F0 m pc ls (.int x :: .int i :: .ref (g.2.2 k) :: rest)) := by
  refine va_iast hM.x hM.b hM.K hw.1 (wl_D hM.I κ s.heap.size) hw.2 k 0 (by rw [wl_get g κ hk, hsh]) rfl hin hdg (fun H1 locs1 hP hD hS => kk H1 locs1 ⟨?_, hS⟩)
  have e1 : upd (κ k) i.toNatClampNeg x = va_up (κ k) i.toNatClampNeg x := rfl
  rw [e1, ← hsh, wl_set] at hP
  exact hP
theorem k_alen {v : Int32} (hM : Mc g p s m args meth c cc nL own) (hw : Ws g s κ H locs) (hk : k < 99) {a : vp_A} (t : Nat) {ci : ClassId} {ty : FieldType} (hsh : sh g.2.1 g.2.2 k (κ k) = .inl (ci, a)) (ht : (tyl g.2.1)[t]? = some (ci, ty)) (hn : Int32.ofNat a.1 = v) (hdg : decode cc pc = .ok (.arraylength, 1))
    (kk : W p l e R s m args below meth c H locs cells slots Q (F0 m (pc + 1) ls (.int v :: rest))) : W p l e R s m args below meth c H locs cells slots Q (F0 m pc ls (.ref (g.2.2 k) :: rest)) :=
  va_alen hM.x hM.b hM.K hw.1 k t (by rw [wl_get g κ hk, hsh]) ht hn hdg kk
-- rows of objects
theorem k_ald7 {i : Int32} (hM : Mc g p s m args meth c cc nL own) (hw : Ws g s κ H locs) (h : kd k = 1) (hin : vp_in i 3) (hdg : decode cc pc = .ok (.aaload, 1))
    (kk : W p l e R s m args below meth c H locs cells slots Q (F0 m (pc + 1) ls (.ref (g.2.2 (k + 4 + i.toNatClampNeg)) :: rest))) : W p l e R s m args below meth c H locs cells slots Q (F0 m pc ls (.int i :: .ref (g.2.2 (k + 1)) :: rest)) :=
  va_aldq hM.x hM.b hM.K hw.1 (k + 1) 2 (by rw [wl_get g κ (kd_lt (kd1_7 h) (by decide)), sh7 (kd1_7 h)]) rfl hin hdg (by
    show W p l e R s m args below meth c H locs cells slots Q (F0 m (pc + 1) ls (.ref (g.2.2 (k + 1 + 3 + i.toNatClampNeg)) :: rest))
    rw [show k + 1 + 3 + i.toNatClampNeg = k + 4 + i.toNatClampNeg by omega]; exact kk)
theorem k_ald8 {i : Int32} (hM : Mc g p s m args meth c cc nL own) (hw : Ws g s κ H locs) (h : kd k = 1) (hin : vp_in i 6) (hdg : decode cc pc = .ok (.aaload, 1))
    (kk : W p l e R s m args below meth c H locs cells slots Q (F0 m (pc + 1) ls (.ref (g.2.2 (k + 7 + i.toNatClampNeg)) :: rest))) : W p l e R s m args below meth c H locs cells slots Q (F0 m pc ls (.int i :: .ref (g.2.2 (k + 2)) :: rest)) :=
  va_aldq hM.x hM.b hM.K hw.1 (k + 2) 3 (by rw [wl_get g κ (kd_lt (kd1_8 h) (by decide)), sh8 (kd1_8 h)]) rfl hin hdg (by
    show W p l e R s m args below meth c H locs cells slots Q (F0 m (pc + 1) ls (.ref (g.2.2 (k + 2 + 5 + i.toNatClampNeg)) :: rest))
    rw [show k + 2 + 5 + i.toNatClampNeg = k + 7 + i.toNatClampNeg by omega]; exact kk)
theorem k_ald9 {i : Int32} (hM : Mc g p s m args meth c cc nL own) (hw : Ws g s κ H locs) (h : kd k = 1) (hin : vp_in i 16) (hdg : decode cc pc = .ok (.aaload, 1))
    (kk : W p l e R s m args below meth c H locs cells slots Q (F0 m (pc + 1) ls (.ref (g.2.2 (k + 13 + 2 * i.toNatClampNeg)) :: rest))) : W p l e R s m args below meth c H locs cells slots Q (F0 m pc ls (.int i :: .ref (g.2.2 (k + 3)) :: rest)) :=
  va_aldq hM.x hM.b hM.K hw.1 (k + 3) 4 (by rw [wl_get g κ (kd_lt (kd1_9 h) (by decide)), sh9 (kd1_9 h)]) rfl hin hdg (by
    show W p l e R s m args below meth c H locs cells slots Q (F0 m (pc + 1) ls (.ref (g.2.2 (k + 3 + 10 + 2 * i.toNatClampNeg)) :: rest))
    rw [show k + 3 + 10 + 2 * i.toNatClampNeg = k + 13 + 2 * i.toNatClampNeg by omega]; exact kk)
-- the law's row of one long: it holds numbers that came from ints
theorem k_lald (hM : Mc g p s m args meth c cc nL own) (hw : Ws g s κ H locs) (hdg : decode cc pc = .ok (.laload, 1))
    (kk : W p l e R s m args below meth c H locs cells slots Q (F0 m (pc + 1) ls (.long (κ 98 0).toInt64 :: rest))) : W p l e R s m args below meth c H locs cells slots Q (F0 m pc ls (.int 0 :: .ref (g.2.2 98) :: rest)) :=
  va_lald (i := 0) (n := 1) (f := fun j => (κ 98 j).toInt64) hM.x hM.b hM.K hw.1 98 1 (by rw [wl_get g κ (by decide), sh14 kd_98]) rfl (by unfold vp_in; decide) hdg kk
theorem k_last {x : Int32} (hM : Mc g p s m args meth c cc nL own) (hw : Ws g s κ H locs) (hdg : decode cc pc = .ok (.lastore, 1))
    (kk : ∀ (H1 : Heap) (locs1 : List Loc), Ws g s (up2 κ 98 0 x) H1 locs1 → W p l e R s m args below meth c H1 locs1 cells slots Q (F0 m (pc + 1) ls rest)) : W p l e R s m args below meth c H locs cells slots Q (F0 m pc ls (.long x.toInt64 :: .int 0 :: .ref (g.2.2 98) :: rest)) := by
  refine va_last (i := 0) (n := 1) (f := fun j => (κ 98 j).toInt64) hM.x hM.b hM.K hw.1 (wl_D hM.I κ s.heap.size) hw.2 98 1 (by rw [wl_get g κ (by decide), sh14 kd_98]) rfl (by unfold vp_in; decide) hdg (fun H1 locs1 hP hD hS => kk H1 locs1 ⟨?_, hS⟩)
  have e1 : (vp_updL (fun j => (κ 98 j).toInt64) (0 : Int32).toNatClampNeg x.toInt64) = fun j => (va_up (κ 98) 0 x j).toInt64 := by
    funext j
    show (if j = 0 then _ else _) = (if j = 0 then _ else _ : Int32).toInt64
    by_cases hj : j = 0 <;> simp [hj]
  rw [e1, ← sh14 (c := g.2.1) (ad := g.2.2) kd_98, wl_set] at hP
  exact hP
end KR2
section KX
variable {l : Launch}
/-- a method's entry -/
theorem k_enter {y : MethodName} {rm : Room} {g : Gt} {κ : Kp} {sz : Nat} {av : List Value} {Qc : Array Value → State → Outcome → State → Prop} {mc ms maxL : Nat} {cc : ByteArray} {ret : Option FieldType} (hy : plainName y.cls = true) (hlen : (lg_sl av).length ≤ maxL)
    (body : ∀ (p : Program) (e : Env) (s : State) (m : MethodId) (below : List Frame) (meth : Method) (c : Code) (ls : Array Slot), Mc g p s m av.toArray meth c cc maxL y.cls → meth.sig.returnType = ret → lv_has ls maxL (lv_args 0 av) → Ws g s κ s.heap [] → s.heap.size = sz →
      W p l e rm s m av.toArray below meth c s.heap [] 0 0 (MQ below Qc av.toArray s mc ms (fr g s.heap.size)) (F0 m 0 ls [])) : Met l y (Cond.code y cc maxL ret :: uW) rm (PRE g κ sz av) Qc mc ms (fr g sz) := by
  refine Met.ofW (cc := cc) (maxL := maxL) (ret := ret) hy rfl ?_
  intro p e s m args below meth c s₁ B hml hv
  obtain ⟨rfl, rfl, hP, hE⟩ := hv
  have hts := atoms_spec (ws := Cond.code y cc maxL ret :: uW) B.pre
  have hl := lv_entry av (n := maxL) hlen
  rw [lg_entry_eq]
  generalize (lg_sl av ++ List.replicate (maxL - (lg_sl av).length) Slot.unset).toArray = ls at hl ⊢
  exact body p e s m below meth c ls ⟨⟨B.exec, B.bytes, hml, findClass_of_methodNamed B.named, fun w h => hts w (List.mem_cons_of_mem _ h)⟩, hE, B.notSynchronized⟩ B.returns hl ⟨hP, va_S.rf⟩ rfl
end KX
section KE
variable {p : Program} {l : Launch} {e : Env} {R : Room} {s : State} {m : MethodId} {args : Array Value} {below : List Frame} {meth : Method} {c : Code} {H : Heap} {locs : List Loc} {cells slots mc ms : Nat}
variable {cc : ByteArray} {pc nL : Nat} {ls : Array Slot} {g : Gt} {κ : Kp} {own : String}
theorem k_iret {v : Int32} {post : Int32 → Kp → Prop} (hM : Mc g p s m args meth c cc nL own) (hr : meth.sig.returnType = some .int) (hw : Ws g s κ H locs) (hc : cells ≤ mc) (hs : slots ≤ ms) (hp : post v κ) (hdg : decode cc pc = .ok (.ireturn, 1)) :
    W p l e R s m args below meth c H locs cells slots (MQ below (va_Qi post (Wp g) (fr g s.heap.size)) args s mc ms (fr g s.heap.size)) (F0 m pc ls [.int v]) :=
  W.widen hc hs (W.iret hM.x hM.b hr (fun t ht hW => ⟨⟨v, κ, rfl, hp, by show va_P _ _ _ t.heap; rw [ht]; exact hw.1⟩, hw.2.F ht⟩) hw.2.2.2 hdg hM.2.2)
theorem k_zret {b : Bool} {post : Int32 → Kp → Prop} (hM : Mc g p s m args meth c cc nL own) (hr : meth.sig.returnType = some .boolean) (hw : Ws g s κ H locs) (hc : cells ≤ mc) (hs : slots ≤ ms) (hp : post (bi b) κ) (hdg : decode cc pc = .ok (.ireturn, 1)) :
    W p l e R s m args below meth c H locs cells slots (MQ below (va_Qi post (Wp g) (fr g s.heap.size)) args s mc ms (fr g s.heap.size)) (F0 m pc ls [.int (bi b)]) :=
  W.widen hc hs (W.zret hM.x hM.b hr (bi_narrow b) (fun t ht hW => ⟨⟨bi b, κ, rfl, hp, by show va_P _ _ _ t.heap; rw [ht]; exact hw.1⟩, hw.2.F ht⟩) hw.2.2.2 hdg hM.2.2)
theorem k_vret {post : Kp → Prop} (hM : Mc g p s m args meth c cc nL own) (hr : meth.sig.returnType = none) (hw : Ws g s κ H locs) (hc : cells ≤ mc) (hs : slots ≤ ms) (hp : post κ) (hdg : decode cc pc = .ok (.return_, 1)) :
    W p l e R s m args below meth c H locs cells slots (MQ below (va_Qv post (Wp g) (fr g s.heap.size)) args s mc ms (fr g s.heap.size)) (F0 m pc ls []) :=
  W.widen hc hs (W.vret hM.x hM.b hr (fun t ht hW => ⟨⟨κ, rfl, hp, by show va_P _ _ _ t.heap; rw [ht]; exact hw.1⟩, hw.2.F ht⟩) hw.2.2.2 hdg hM.2.2)
theorem k_lret {v : Int64} {post : Int64 → Kp → Prop} (hM : Mc g p s m args meth c cc nL own) (hr : meth.sig.returnType = some .long) (hw : Ws g s κ H locs) (hc : cells ≤ mc) (hs : slots ≤ ms) (hp : post v κ) (hdg : decode cc pc = .ok (.lreturn, 1)) :
    W p l e R s m args below meth c H locs cells slots (MQ below (va_Ql post (Wp g) (fr g s.heap.size)) args s mc ms (fr g s.heap.size)) (F0 m pc ls [.long v]) :=
  W.widen hc hs (W.lret hM.x hM.b hr (fun t ht hW => ⟨⟨v, κ, rfl, hp, by show va_P _ _ _ t.heap; rw [ht]; exact hw.1⟩, hw.2.F ht⟩) hw.2.2.2 hdg hM.2.2)
/-- an answer that is one of the cells, or null -/
theorem k_eret {v : Option Nat} {rt : String} {post : Option Nat → Kp → Prop} (hM : Mc g p s m args meth c cc nL own) (hr : meth.sig.returnType = some (.object rt)) (hw : Ws g s κ H locs) (hc : cells ≤ mc) (hs : slots ≤ ms) (hp : post v κ) (hdg : decode cc pc = .ok (.areturn, 1)) :
    W p l e R s m args below meth c H locs cells slots (MQ below (va_Qe g.2.2 post (Wp g) (fr g s.heap.size)) args s mc ms (fr g s.heap.size)) (F0 m pc ls [va_re g.2.2 v]) :=
  W.widen hc hs (W.aret hM.x hM.b hr (Or.inl ⟨_, rfl⟩) (va_re_or _ _) (fun t ht hW => ⟨⟨v, κ, rfl, hp, by show va_P _ _ _ t.heap; rw [ht]; exact hw.1⟩, hw.2.F ht⟩) hw.2.2.2 hdg hM.2.2)
end KE
end
section
theorem uW_good {ws : List Cond} (h : ∀ w ∈ ws, w ∈ uW) : GoodIn uW (ws ++ uW) := by
  intro w hw
  have h1 : w ∈ uW := by
    rcases List.mem_append.mp hw with h2 | h2
    · exact h w h2
    · exact h2
  exact ⟨h1, good_of_word (List.mem_filter.mp h1).2⟩
theorem k_gV {own : String} {idx : Nat} {C : String} {y : MethodName} {w5 : Cond} (h1 : Cond.methodLink own idx y ∈ uW) (h2 : Cond.instanceMethod y ∈ uW) (h3 : Cond.selects C y y ∈ uW) (h4 : Cond.initialized C ∈ uW) (h5 : w5 ∈ uW) : GoodIn uW (wsV own idx C y (w5 :: uW)) := by
  have h := uW_good (ws := [.methodLink own idx y, .instanceMethod y, .selects C y y, .initialized C, w5]) (by
    intro w hw
    simp only [List.mem_cons, List.not_mem_nil, or_false] at hw
    rcases hw with rfl | rfl | rfl | rfl | rfl
    · exact h1
    · exact h2
    · exact h3
    · exact h4
    · exact h5)
  exact h
theorem k_gS {own : String} {idx : Nat} {y : MethodName} {w5 : Cond} (h1 : Cond.methodLink own idx y ∈ uW) (h2 : Cond.static y ∈ uW) (h4 : Cond.initialized y.cls ∈ uW) (h5 : w5 ∈ uW) : GoodIn uW (va_wsS own idx y (w5 :: uW)) := by
  have h := uW_good (ws := [.methodLink own idx y, .static y, .initialized y.cls, w5]) (by
    intro w hw
    simp only [List.mem_cons, List.not_mem_nil, or_false] at hw
    rcases hw with rfl | rfl | rfl | rfl
    · exact h1
    · exact h2
    · exact h4
    · exact h5)
  exact h
theorem fr_lt {g : Gt} {s : State} {κ : Kp} {H : Heap} {locs : List Loc} (hw : Ws g s κ H locs) : ∀ q, fr g H.size q → fr g s.heap.size q := by
  intro q h
  rcases h with h | h
  · exact Or.inl h
  · exact Or.inr (Nat.le_trans hw.2.1 h)
/-- the facts by which a method can be called -/
abbrev hdV (y : MethodName) (C : String) (n : Nat) : Prop := y.cls = C ∧ y.cls ≠ "java/lang/invoke/MethodHandle" ∧ y.cls ≠ "java/lang/invoke/VarHandle" ∧ (parseMethodDescriptor y.desc).map (fun d => d.parameters.length) = some n
abbrev rmOk (R rm : Room) (maxL : Nat) : Prop := rm.frames + 1 ≤ R.frames ∧ 8 + (maxL + 11) + rm.locals ≤ R.locals
/-- what a throw leaves behind -/
def xE (g : Gt) (κ : Kp) (XE : String → Prop) : String → Unit → State → Prop := fun E _ t => XE E ∧ Wp g κ t
abbrev xC (g : Gt) (κ : Kp) (sz : Nat) (XE : String → Prop) : String → State → State → Prop := vx_X (fun _ : Unit => True) (xE g κ XE) (fr g sz)
section KC
variable {p : Program} {l : Launch} {e : Env} {R : Room} {s : State} {m : MethodId} {args : Array Value} {below : List Frame} {meth : Method} {c : Code} {H : Heap} {locs : List Loc} {cells slots : Nat} {Q : State → Prop}
variable {cc bytes : ByteArray} {pc nL maxL mc ms n idx k : Nat} {ls : Array Slot} {rest st0 As : List Value} {g : Gt} {κ : Kp} {own C : String} {y : MethodName} {ret : Option FieldType} {rm : Room} {Qc : Array Value → State → Outcome → State → Prop} {XC : String → State → State → Prop} {a : Array Value}
theorem k_runV {ci N : Nat} {T : u_T} {fs : List Value} (As rest : List Value) (hM : Mc g p s m args meth c cc nL own) (hw : Ws g s κ H locs) (ct : Met l y (.code y bytes maxL ret :: uW) rm (PRE g κ H.size (.ref (g.2.2 k) :: As)) Qc mc ms (fr g H.size)) (hk : k < 99) (hsh : sh g.2.1 g.2.2 k (κ k) = .inr (ci, fs)) (hc : vwCl[ci]? = some (C, T, N))
    (hG : GoodIn uW (wsV own idx C y (.code y bytes maxL ret :: uW))) (hd : hdV y C n) (hn : As.length = n) (hrc : rm.cells = mc) (hrs : rm.slots = ms) (hR : rmOk R rm maxL) (hls : ls.size = nL) (hst : st0 = As.reverse ++ .ref (g.2.2 k) :: rest) (hsum : (rest.map fun v => v.category).sum ≤ 8) (hdg : decode cc pc = .ok (.invokevirtual idx, 3)) (hf : cells + mc ≤ R.cells ∧ slots + ms ≤ R.slots) :
    va_Run p l e R s m args below meth c H locs cells slots mc ms (F0 m pc ls st0) rest (Qc (Value.ref (g.2.2 k) :: As).toArray) (fr g H.size) :=
  va_runV (As := As) (rest := rest) hM.1 ct (cwV n hM.ts hG rfl hrc hrs hd hR) ⟨PRE.blind, va_recv hM.K hw.1 hc (by rw [wl_get g κ hk, hsh]), fun U hU hW => ⟨rfl, by rw [hU], Wd.warm hM.2.1 hw hU hW⟩⟩ rfl hn hls hst (lv_room hsum) hdg hf
theorem k_runS (As rest : List Value) (hM : Mc g p s m args meth c cc nL own) (hw : Ws g s κ H locs) (ct : Met l y (.code y bytes maxL ret :: uW) rm (PRE g κ H.size As) Qc mc ms (fr g H.size))
    (hG : GoodIn uW (va_wsS own idx y (.code y bytes maxL ret :: uW))) (hd : hdV y C n) (hn : As.length = n) (hrc : rm.cells = mc) (hrs : rm.slots = ms) (hR : rmOk R rm maxL) (hls : ls.size = nL) (hst : st0 = As.reverse ++ rest) (hsum : (rest.map fun v => v.category).sum ≤ 8) (hdg : decode cc pc = .ok (.invokestatic idx, 3)) (hf : cells + mc ≤ R.cells ∧ slots + ms ≤ R.slots) :
    va_Run p l e R s m args below meth c H locs cells slots mc ms (F0 m pc ls st0) rest (Qc As.toArray) (fr g H.size) :=
  va_runS (As := As) (rest := rest) hM.1 ct (va_cwS n hM.ts hG rfl hrc hrs hd.2 hR) ⟨PRE.blind, fun U hU hW => ⟨rfl, by rw [hU], Wd.warm hM.2.1 hw hU hW⟩⟩ rfl hn hls hst (lv_room hsum) hdg hf
theorem k_runXV {ci N : Nat} {T : u_T} {fs : List Value} (As rest : List Value) (hM : Mc g p s m args meth c cc nL own) (hw : Ws g s κ H locs) (ct : vx_Met l y (.code y bytes maxL ret :: uW) rm (PRE g κ H.size (.ref (g.2.2 k) :: As)) Qc XC mc ms (fr g H.size)) (hk : k < 99) (hsh : sh g.2.1 g.2.2 k (κ k) = .inr (ci, fs)) (hc : vwCl[ci]? = some (C, T, N))
    (hG : GoodIn uW (wsV own idx C y (.code y bytes maxL ret :: uW))) (hd : hdV y C n) (hn : As.length = n) (hrc : rm.cells = mc) (hrs : rm.slots = ms) (hR : rmOk R rm maxL) (hls : ls.size = nL) (hst : st0 = As.reverse ++ .ref (g.2.2 k) :: rest) (hsum : (rest.map fun v => v.category).sum ≤ 8) (hdg : decode cc pc = .ok (.invokevirtual idx, 3)) (hf : cells + mc ≤ R.cells ∧ slots + ms ≤ R.slots) :
    vx_Run p l e R s m args below meth c H locs cells slots mc ms (F0 m pc ls st0) rest (Qc (Value.ref (g.2.2 k) :: As).toArray) XC (fr g H.size) :=
  vx_runV (As := As) (rest := rest) hM.1 ct (cwV n hM.ts hG rfl hrc hrs hd hR) ⟨PRE.blind, va_recv hM.K hw.1 hc (by rw [wl_get g κ hk, hsh]), fun U hU hW => ⟨rfl, by rw [hU], Wd.warm hM.2.1 hw hU hW⟩⟩ rfl hn hls hst (lv_room hsum) hdg hf
theorem k_runXS (As rest : List Value) (hM : Mc g p s m args meth c cc nL own) (hw : Ws g s κ H locs) (ct : vx_Met l y (.code y bytes maxL ret :: uW) rm (PRE g κ H.size As) Qc XC mc ms (fr g H.size))
    (hG : GoodIn uW (va_wsS own idx y (.code y bytes maxL ret :: uW))) (hd : hdV y C n) (hn : As.length = n) (hrc : rm.cells = mc) (hrs : rm.slots = ms) (hR : rmOk R rm maxL) (hls : ls.size = nL) (hst : st0 = As.reverse ++ rest) (hsum : (rest.map fun v => v.category).sum ≤ 8) (hdg : decode cc pc = .ok (.invokestatic idx, 3)) (hf : cells + mc ≤ R.cells ∧ slots + ms ≤ R.slots) :
    vx_Run p l e R s m args below meth c H locs cells slots mc ms (F0 m pc ls st0) rest (Qc As.toArray) XC (fr g H.size) :=
  vx_runS (As := As) (rest := rest) hM.1 ct (va_cwS n hM.ts hG rfl hrc hrs hd.2 hR) ⟨PRE.blind, fun U hU hW => ⟨rfl, by rw [hU], Wd.warm hM.2.1 hw hU hW⟩⟩ rfl hn hls hst (lv_room hsum) hdg hf
-- behind a call that returns
theorem k_ci {post : Int32 → Kp → Prop} (hw : Ws g s κ H locs) (hr : va_Run p l e R s m args below meth c H locs cells slots mc ms (F0 m pc ls st0) rest (va_Qi post (Wp g) (fr g H.size) a) (fr g H.size))
    (kk : ∀ (r : Int32) (κ' : Kp) (H1 : Heap) (locs1 : List Loc), post r κ' → Ws g s κ' H1 locs1 → W p l e R s m args below meth c H1 locs1 (cells + mc) (slots + ms) Q (F0 m (pc + 3) ls (.int r :: rest))) : W p l e R s m args below meth c H locs cells slots Q (F0 m pc ls st0) :=
  va_calli hr hw.2 (fun q _ h => fr_lt hw q h) (fr_lt hw) (fun r u t H1 locs1 ht hvm hp hB hz hk hS => kk r u H1 locs1 hp ⟨by rw [← ht]; exact hB, hS⟩)
theorem k_cl {post : Int64 → Kp → Prop} (hw : Ws g s κ H locs) (hr : va_Run p l e R s m args below meth c H locs cells slots mc ms (F0 m pc ls st0) rest (va_Ql post (Wp g) (fr g H.size) a) (fr g H.size))
    (kk : ∀ (r : Int64) (κ' : Kp) (H1 : Heap) (locs1 : List Loc), post r κ' → Ws g s κ' H1 locs1 → W p l e R s m args below meth c H1 locs1 (cells + mc) (slots + ms) Q (F0 m (pc + 3) ls (.long r :: rest))) : W p l e R s m args below meth c H locs cells slots Q (F0 m pc ls st0) :=
  va_calll hr hw.2 (fun q _ h => fr_lt hw q h) (fr_lt hw) (fun r u t H1 locs1 ht hvm hp hB hz hk hS => kk r u H1 locs1 hp ⟨by rw [← ht]; exact hB, hS⟩)
theorem k_cv {post : Kp → Prop} (hw : Ws g s κ H locs) (hr : va_Run p l e R s m args below meth c H locs cells slots mc ms (F0 m pc ls st0) rest (va_Qv post (Wp g) (fr g H.size) a) (fr g H.size))
    (kk : ∀ (κ' : Kp) (H1 : Heap) (locs1 : List Loc), post κ' → Ws g s κ' H1 locs1 → W p l e R s m args below meth c H1 locs1 (cells + mc) (slots + ms) Q (F0 m (pc + 3) ls rest)) : W p l e R s m args below meth c H locs cells slots Q (F0 m pc ls st0) :=
  va_callv hr hw.2 (fun q _ h => fr_lt hw q h) (fr_lt hw) (fun u t H1 locs1 ht hvm hp hB hz hk hS => kk u H1 locs1 hp ⟨by rw [← ht]; exact hB, hS⟩)
theorem k_ce {post : Option Nat → Kp → Prop} (hw : Ws g s κ H locs) (hr : va_Run p l e R s m args below meth c H locs cells slots mc ms (F0 m pc ls st0) rest (va_Qe g.2.2 post (Wp g) (fr g H.size) a) (fr g H.size))
    (kk : ∀ (r : Option Nat) (κ' : Kp) (H1 : Heap) (locs1 : List Loc), post r κ' → Ws g s κ' H1 locs1 → W p l e R s m args below meth c H1 locs1 (cells + mc) (slots + ms) Q (F0 m (pc + 3) ls (va_re g.2.2 r :: rest))) : W p l e R s m args below meth c H locs cells slots Q (F0 m pc ls st0) :=
  va_calle hr hw.2 (fun q _ h => fr_lt hw q h) (fr_lt hw) (fun r u t H1 locs1 ht hvm hp hB hz hk hS => kk r u H1 locs1 hp ⟨by rw [← ht]; exact hB, hS⟩)
-- .. that answers a number and leaves the cells as they are
theorem k_cip {v : Int32} (hw : Ws g s κ H locs) (hr : va_Run p l e R s m args below meth c H locs cells slots mc ms (F0 m pc ls st0) rest (va_Qi (fun r κ' => r = v ∧ κ' = κ) (Wp g) (fr g H.size) a) (fr g H.size))
    (kk : ∀ (H1 : Heap) (locs1 : List Loc), Ws g s κ H1 locs1 → W p l e R s m args below meth c H1 locs1 (cells + mc) (slots + ms) Q (F0 m (pc + 3) ls (.int v :: rest))) : W p l e R s m args below meth c H locs cells slots Q (F0 m pc ls st0) :=
  k_ci hw hr (fun r κ' H1 locs1 hp hw1 => by obtain ⟨rfl, rfl⟩ := hp; exact kk H1 locs1 hw1)
theorem k_clp {v : Int64} (hw : Ws g s κ H locs) (hr : va_Run p l e R s m args below meth c H locs cells slots mc ms (F0 m pc ls st0) rest (va_Ql (fun r κ' => r = v ∧ κ' = κ) (Wp g) (fr g H.size) a) (fr g H.size))
    (kk : ∀ (H1 : Heap) (locs1 : List Loc), Ws g s κ H1 locs1 → W p l e R s m args below meth c H1 locs1 (cells + mc) (slots + ms) Q (F0 m (pc + 3) ls (.long v :: rest))) : W p l e R s m args below meth c H locs cells slots Q (F0 m pc ls st0) :=
  k_cl hw hr (fun r κ' H1 locs1 hp hw1 => by obtain ⟨rfl, rfl⟩ := hp; exact kk H1 locs1 hw1)
theorem k_cep {v : Option Nat} (hw : Ws g s κ H locs) (hr : va_Run p l e R s m args below meth c H locs cells slots mc ms (F0 m pc ls st0) rest (va_Qe g.2.2 (fun r κ' => r = v ∧ κ' = κ) (Wp g) (fr g H.size) a) (fr g H.size))
    (kk : ∀ (H1 : Heap) (locs1 : List Loc), Ws g s κ H1 locs1 → W p l e R s m args below meth c H1 locs1 (cells + mc) (slots + ms) Q (F0 m (pc + 3) ls (va_re g.2.2 v :: rest))) : W p l e R s m args below meth c H locs cells slots Q (F0 m pc ls st0) :=
  k_ce hw hr (fun r κ' H1 locs1 hp hw1 => by obtain ⟨rfl, rfl⟩ := hp; exact kk H1 locs1 hw1)
theorem k_cvp {κ2 : Kp} (hw : Ws g s κ H locs) (hr : va_Run p l e R s m args below meth c H locs cells slots mc ms (F0 m pc ls st0) rest (va_Qv (fun κ' => κ' = κ2) (Wp g) (fr g H.size) a) (fr g H.size))
    (kk : ∀ (κ' : Kp) (H1 : Heap) (locs1 : List Loc), κ2 = κ' → Ws g s κ' H1 locs1 → W p l e R s m args below meth c H1 locs1 (cells + mc) (slots + ms) Q (F0 m (pc + 3) ls rest)) : W p l e R s m args below meth c H locs cells slots Q (F0 m pc ls st0) :=
  k_cv hw hr (fun κ' H1 locs1 hp hw1 => kk κ' H1 locs1 hp.symm hw1)
-- behind a call that may throw
theorem k_xi {post : Int32 → Kp → Prop} {XE : String → Prop} (hw : Ws g s κ H locs) (hr : vx_Run p l e R s m args below meth c H locs cells slots mc ms (F0 m pc ls st0) rest (va_Qi post (Wp g) (fr g H.size) a) (xC g κ H.size XE) (fr g H.size))
    (kx : ∀ (E : String) (ce : Cell) (q9 : Addr) (H1 : Heap) (locs1 : List Loc), XE E → Ws g s κ H1 locs1 → H1[q9]? = some ce → ce.vm = .none → s.vm.findClass E = some ce.cls → vx_W p l e R s m args below meth c H1 locs1 (cells + mc) (slots + ms) Q (F0 m pc ls rest) q9)
    (kk : ∀ (r : Int32) (κ' : Kp) (H1 : Heap) (locs1 : List Loc), post r κ' → Ws g s κ' H1 locs1 → W p l e R s m args below meth c H1 locs1 (cells + mc) (slots + ms) Q (F0 m (pc + 3) ls (.int r :: rest))) : W p l e R s m args below meth c H locs cells slots Q (F0 m pc ls st0) :=
  vx_calli hr hw.2 (fun q _ h => fr_lt hw q h) (fr_lt hw) (fun q _ h => fr_lt hw q h) (fun E ce q u t H1 locs1 ht hvm hp hB hz hk hS h1 h2 h3 => kx E ce q H1 locs1 hB.1 ⟨by rw [← ht]; exact hB.2, hS⟩ h1 h2 h3) (fun r u t H1 locs1 ht hvm hp hB hz hk hS => kk r u H1 locs1 hp ⟨by rw [← ht]; exact hB, hS⟩)
theorem k_xv {post : Kp → Prop} {XE : String → Prop} (hw : Ws g s κ H locs) (hr : vx_Run p l e R s m args below meth c H locs cells slots mc ms (F0 m pc ls st0) rest (va_Qv post (Wp g) (fr g H.size) a) (xC g κ H.size XE) (fr g H.size))
    (kx : ∀ (E : String) (ce : Cell) (q9 : Addr) (H1 : Heap) (locs1 : List Loc), XE E → Ws g s κ H1 locs1 → H1[q9]? = some ce → ce.vm = .none → s.vm.findClass E = some ce.cls → vx_W p l e R s m args below meth c H1 locs1 (cells + mc) (slots + ms) Q (F0 m pc ls rest) q9)
    (kk : ∀ (κ' : Kp) (H1 : Heap) (locs1 : List Loc), post κ' → Ws g s κ' H1 locs1 → W p l e R s m args below meth c H1 locs1 (cells + mc) (slots + ms) Q (F0 m (pc + 3) ls rest)) : W p l e R s m args below meth c H locs cells slots Q (F0 m pc ls st0) :=
  vx_callv hr hw.2 (fun q _ h => fr_lt hw q h) (fr_lt hw) (fun q _ h => fr_lt hw q h) (fun E ce q u t H1 locs1 ht hvm hp hB hz hk hS h1 h2 h3 => kx E ce q H1 locs1 hB.1 ⟨by rw [← ht]; exact hB.2, hS⟩ h1 h2 h3) (fun u t H1 locs1 ht hvm hp hB hz hk hS => kk u H1 locs1 hp ⟨by rw [← ht]; exact hB, hS⟩)
theorem k_xe {post : Option Nat → Kp → Prop} {XE : String → Prop} (hw : Ws g s κ H locs) (hr : vx_Run p l e R s m args below meth c H locs cells slots mc ms (F0 m pc ls st0) rest (va_Qe g.2.2 post (Wp g) (fr g H.size) a) (xC g κ H.size XE) (fr g H.size))
    (kx : ∀ (E : String) (ce : Cell) (q9 : Addr) (H1 : Heap) (locs1 : List Loc), XE E → Ws g s κ H1 locs1 → H1[q9]? = some ce → ce.vm = .none → s.vm.findClass E = some ce.cls → vx_W p l e R s m args below meth c H1 locs1 (cells + mc) (slots + ms) Q (F0 m pc ls rest) q9)
    (kk : ∀ (r : Option Nat) (κ' : Kp) (H1 : Heap) (locs1 : List Loc), post r κ' → Ws g s κ' H1 locs1 → W p l e R s m args below meth c H1 locs1 (cells + mc) (slots + ms) Q (F0 m (pc + 3) ls (va_re g.2.2 r :: rest))) : W p l e R s m args below meth c H locs cells slots Q (F0 m pc ls st0) := by
  intro T hT X
  rcases hr T hT X with ⟨v, st₀, t, T', L, h0, X', hL, e1, e2, ⟨⟨r, u, hv, hp, hb⟩, hF⟩, st⟩ | ⟨q, st₀, t, T', L, E, ce, h0, X', hL, e1, e2, ⟨u, hp, hb, hF⟩, hce, hcv, hcl, st⟩
  · cases hv
    obtain ⟨k1, k2, k3⟩ := vx_keep h0 e1 hw.2 (fun q _ h => fr_lt hw q h) (fr_lt hw) hL hF
    obtain ⟨t2, a1, b1⟩ := kk r u T'.heap (locs ++ L) hp ⟨by rw [e1]; exact hb, k3⟩ T' rfl X'
    exact ⟨t2, st t2 a1, b1⟩
  · obtain ⟨k1, k2, k3⟩ := vx_keep h0 e1 hw.2 (fun q _ h => fr_lt hw q h) (fr_lt hw) hL hF
    obtain ⟨t2, a1, b1⟩ := kx E ce q T'.heap (locs ++ L) hb.1 ⟨by rw [e1]; exact hb.2, k3⟩ (by rw [e1]; exact hce) hcv hcl T' rfl X'
    exact ⟨t2, st.trans a1, b1⟩
/-- not caught: on to the caller -/
theorem k_xout {XE : String → Prop} {E : String} {ce : Cell} {q9 : Addr} (hM : Mc g p s m args meth c cc nL own) (hno : ∀ x ∈ c.exceptionTable.toList, False) (hw : Ws g s κ H locs) (h1 : H[q9]? = some ce) (h2 : ce.vm = .none) (h3 : s.vm.findClass E = some ce.cls) (hx : XE E) (hc : cells ≤ mc) (hs : slots ≤ ms) :
    vx_W p l e R s m args below meth c H locs cells slots (vx_MQ below Qc (xC g κ s.heap.size XE) args s mc ms (fr g s.heap.size)) (F0 m pc ls rest) q9 :=
  vx_out (fun x h => (hno x h).elim) hM.2.2 h1 h2 h3 (fun t ht hvm => ⟨(), trivial, ⟨hx, by show va_P _ _ _ t.heap; rw [ht]; exact hw.1⟩, hw.2.F ht⟩) hw.2.2.2 hc hs
end KC
section KX2
variable {l : Launch}
/-- the entry of a method that may throw -/
theorem k_xenter {y : MethodName} {rm : Room} {g : Gt} {κ : Kp} {sz : Nat} {av : List Value} {Qc : Array Value → State → Outcome → State → Prop} {XC : String → State → State → Prop} {mc ms maxL : Nat} {cc : ByteArray} {ret : Option FieldType} (hy : plainName y.cls = true) (hlen : (lg_sl av).length ≤ maxL)
    (body : ∀ (p : Program) (e : Env) (s : State) (m : MethodId) (below : List Frame) (meth : Method) (c : Code) (ls : Array Slot), Mc g p s m av.toArray meth c cc maxL y.cls → (∀ x ∈ c.exceptionTable.toList, False) → meth.sig.returnType = ret → lv_has ls maxL (lv_args 0 av) → Ws g s κ s.heap [] → s.heap.size = sz →
      W p l e rm s m av.toArray below meth c s.heap [] 0 0 (vx_MQ below Qc XC av.toArray s mc ms (fr g s.heap.size)) (F0 m 0 ls [])) : vx_Met l y (Cond.code y cc maxL ret :: uW) rm (PRE g κ sz av) Qc XC mc ms (fr g sz) := by
  refine vx_ofW (cc := cc) (maxL := maxL) (ret := ret) hy rfl ?_
  intro p e s m args below meth c s₁ B hml hno hv
  obtain ⟨rfl, rfl, hP, hE⟩ := hv
  have hts := atoms_spec (ws := Cond.code y cc maxL ret :: uW) B.pre
  have hl := lv_entry av (n := maxL) hlen
  rw [lg_entry_eq]
  generalize (lg_sl av ++ List.replicate (maxL - (lg_sl av).length) Slot.unset).toArray = ls at hl ⊢
  exact body p e s m below meth c ls ⟨⟨B.exec, B.bytes, hml, findClass_of_methodNamed B.named, fun w h => hts w (List.mem_cons_of_mem _ h)⟩, hE, B.notSynchronized⟩ hno B.returns hl ⟨hP, va_S.rf⟩ rfl
end KX2
abbrev xnames : List String := ["java/lang/RuntimeException", "java/lang/Exception"]
section KT
variable {p : Program} {l : Launch} {e : Env} {R : Room} {s : State} {m : MethodId} {args : Array Value} {below : List Frame} {meth : Method} {c : Code} {H : Heap} {locs : List Loc} {cells slots mc ms : Nat}
variable {cc : ByteArray} {pc nL : Nat} {ls : Array Slot} {rest : List Value} {g : Gt} {κ : Kp} {Qc : Array Value → State → Outcome → State → Prop} {XE : String → Prop}
/-- throw new cls("text") -/
theorem k_throw {cls text : String} {ik is ic : Nat} (hl : l.stackTraces = false) (hM : Mc g p s m args meth c cc nL RX4) (hno : ∀ x ∈ c.exceptionTable.toList, False) (hw : Ws g s κ H locs) (hcls : Bundle.fit cls = true) (hk : Cond.classLink RX4 ik cls ∈ uW) (hini : Cond.initialized cls ∈ uW) (hstr : (is, text) ∈ strl)
    (hat : ∀ w ∈ (vx_atS RX4 ic cls xnames).filter goodWord, w ∈ uW) (hbad : ∀ w ∈ (vx_atS RX4 ic cls xnames).filter (fun w => !goodWord w), w ∈ nwl) (hgood : ∀ w ∈ Cond.classLink RX4 ik cls :: Cond.initialized cls :: vx_atS RX4 ic cls xnames, vx_ot w = true)
    (hls : ls.size = nL) (d0 : decode cc pc = .ok (.new ik, 3)) (d3 : decode cc (pc + 3) = .ok (.dup, 1)) (d4 : decode cc (pc + 4) = .ok (.ldc is, 2)) (d6 : decode cc (pc + 6) = .ok (.invokespecial ic, 3)) (d9 : decode cc (pc + 9) = .ok (.athrow, 1))
    (hRf : 5 < R.frames) (hRl : (rest.map fun v => v.category).sum + 82 ≤ R.locals) (hRc : cells + 1 ≤ R.cells) (hRs : slots + 6 ≤ R.slots) (hx : XE cls) (hc : cells + 1 ≤ mc) (hs : slots + 6 ≤ ms) :
    W p l e R s m args below meth c H locs cells slots (vx_MQ below Qc (xC g κ s.heap.size XE) args s mc ms (fr g s.heap.size)) (F0 m pc ls rest) := by
  obtain ⟨hK, hi, h0, hz⟩ := hM.2.1
  obtain ⟨sa, hsa⟩ := h0.2.1 _ hstr
  refine vx_throwS (names := xnames) (text := text) (A := fr g s.heap.size) hM.x hM.b hl hM.ow hcls (by decide +kernel) (hM.ts _ hk) (hM.ts _ hini) hsa ?_ hgood hz.1 hz.2 hw.2 (by rw [hM.ml]; exact hls) d0 d3 d4 d6 d9 (fun x h => (hno x h).elim) hRf hRl hRc hRs hM.2.2 (fun t hvm h1 h2 => ⟨(), trivial, ⟨hx, ?_⟩, ?_⟩) hw.2.2.2 hc hs
  · refine vx_hat (B := nwl) (fun w hw => hM.ts _ (hat w hw)) hbad (fun w hw => va_Nw.use (nwl_tab hw) (h0.1 w hw))
  · exact hw.1.kept (fun k q hq => h2 q.1 ((hw.1 k q hq).lt))
  · exact ⟨Nat.le_trans hw.2.1 h1, fun q hq hn => by rw [h2 q (Nat.lt_of_lt_of_le hq hw.2.1)]; exact hw.2.2.1 q hq hn⟩
end KT
theorem xISE1 : ∀ w ∈ (vx_atS RX4 27 nISE xnames).filter goodWord, w ∈ uW := fun w h => List.mem_filter.mpr ⟨(by decide +kernel : ∀ w ∈ (vx_atS RX4 27 nISE xnames).filter goodWord, w ∈ lw_tbl) w h, (List.mem_filter.mp h).2⟩
theorem xISE2 : ∀ w ∈ (vx_atS RX4 27 nISE xnames).filter (fun w => !goodWord w), w ∈ nwl := by decide +kernel
theorem xISE3 : ∀ w ∈ Cond.classLink RX4 23 nISE :: Cond.initialized nISE :: vx_atS RX4 27 nISE xnames, vx_ot w = true := by decide +kernel
theorem xIAE1 : ∀ w ∈ (vx_atS RX4 38 nIAE xnames).filter goodWord, w ∈ uW := fun w h => List.mem_filter.mpr ⟨(by decide +kernel : ∀ w ∈ (vx_atS RX4 38 nIAE xnames).filter goodWord, w ∈ lw_tbl) w h, (List.mem_filter.mp h).2⟩
theorem xIAE2 : ∀ w ∈ (vx_atS RX4 38 nIAE xnames).filter (fun w => !goodWord w), w ∈ nwl := by decide +kernel
theorem xIAE3 : ∀ w ∈ Cond.classLink RX4 34 nIAE :: Cond.initialized nIAE :: vx_atS RX4 38 nIAE xnames, vx_ot w = true := by decide +kernel
theorem xIOE1 : ∀ w ∈ (vx_atS RX4 159 nIOE xnames).filter goodWord, w ∈ uW := fun w h => List.mem_filter.mpr ⟨(by decide +kernel : ∀ w ∈ (vx_atS RX4 159 nIOE xnames).filter goodWord, w ∈ lw_tbl) w h, (List.mem_filter.mp h).2⟩
theorem xIOE2 : ∀ w ∈ (vx_atS RX4 159 nIOE xnames).filter (fun w => !goodWord w), w ∈ nwl := by decide +kernel
theorem xIOE3 : ∀ w ∈ Cond.classLink RX4 155 nIOE :: Cond.initialized nIOE :: vx_atS RX4 159 nIOE xnames, vx_ot w = true := by decide +kernel
end
section
theorem vpin1 {x M : Int32} {n : Nat} (hM : M.toInt = n) (h0 : ¬ x < 0) (h1 : ¬ M ≤ x) : vp_in x n := by
  rw [vp_in_iff, ← hM]
  rw [Int32.lt_iff_toInt_lt] at h0
  rw [Int32.le_iff_toInt_le] at h1
  have e0 : (0 : Int32).toInt = 0 := rfl
  omega
theorem vpin2 {x M : Int32} {n : Nat} (hM : M.toInt = n) (h0 : ¬ x < 0) (h1 : x < M) : vp_in x n := by
  rw [vp_in_iff, ← hM]
  rw [Int32.lt_iff_toInt_lt] at h0 h1
  have e0 : (0 : Int32).toInt = 0 := rfl
  omega
theorem vpin_lt {x : Int32} {n : Nat} (h : vp_in x n) : x.toNatClampNeg < n := Nat.not_le.mp fun q => h (Or.inr q)
theorem nz_pos1 {y : Int32} (h : ¬ y ≤ 0) : ¬ y = 0 := by
  rintro rfl
  exact h (by decide)
theorem nz_pos2 {y : Int32} (h : 0 < y) : ¬ y = 0 := by
  rintro rfl
  exact absurd h (by decide)
section KN
variable {p : Program} {l : Launch} {e : Env} {R : Room} {s : State} {m : MethodId} {args : Array Value} {below : List Frame} {meth : Method} {c : Code} {H : Heap} {locs : List Loc} {cells slots : Nat} {Q : State → Prop}
variable {cc : ByteArray} {pc nL mc ms : Nat} {ls : Array Slot} {rest st0 : List Value} {g : Gt} {κ : Kp} {own : String} {k : Nat} {arr : Array Value}
theorem k_iaddN {a b : Nat} (hM : Mc g p s m args meth c cc nL own) (hdg : decode cc pc = .ok (.iadd, 1)) (kk : W p l e R s m args below meth c H locs cells slots Q (F0 m (pc + 1) ls (.int (nI (a + b)) :: rest))) : W p l e R s m args below meth c H locs cells slots Q (F0 m pc ls (.int (nI b) :: .int (nI a) :: rest)) :=
  lv_iadd hM.x hM.b hdg (by rw [nI_add]; exact kk)
theorem k_imulN {a b : Nat} (hM : Mc g p s m args meth c cc nL own) (hdg : decode cc pc = .ok (.imul, 1)) (kk : W p l e R s m args below meth c H locs cells slots Q (F0 m (pc + 1) ls (.int (nI (a * b)) :: rest))) : W p l e R s m args below meth c H locs cells slots Q (F0 m pc ls (.int (nI b) :: .int (nI a) :: rest)) :=
  lv_imul hM.x hM.b hdg (by rw [pk_mul]; exact kk)
theorem k_ialdN {n i : Nat} (hM : Mc g p s m args meth c cc nL own) (hw : Ws g s κ H locs) (hk : k < 99) (hsh : sh g.2.1 g.2.2 k (κ k) = .inl (g.2.1 0, n, .inl (κ k))) (hi : i < n) (hn : n < 2 ^ 31) (hdg : decode cc pc = .ok (.iaload, 1))
    (kk : W p l e R s m args below meth c H locs cells slots Q (F0 m (pc + 1) ls (.int (κ k i) :: rest))) : W p l e R s m args below meth c H locs cells slots Q (F0 m pc ls (.int (nI i) :: .ref (g.2.2 k) :: rest)) :=
  k_iald hM hw hk hsh (vp_in_nI hi hn) hdg (by rw [nI_clamp (Nat.lt_trans hi hn)]; exact kk)
theorem k_iastN {n i : Nat} {x : Int32} (hM : Mc g p s m args meth c cc nL own) (hw : Ws g s κ H locs) (hk : k < 99) (hsh : ∀ r : Nat → Int32, sh g.2.1 g.2.2 k r = .inl (g.2.1 0, n, .inl r)) (hi : i < n) (hn : n < 2 ^ 31) (hdg : decode cc pc = .ok (.iastore, 1))
    (kk : ∀ (H1 : Heap) (locs1 : List Loc), Ws g s (up2 κ k i x) H1 locs1 → W p l e R s m args below meth c H1 locs1 cells slots Q (F0 m (pc + 1) ls rest)) : W p l e R s m args below meth c H locs cells slots Q (F0 m pc ls (.int x :: .int (nI i) :: .ref (g.2.2 k) :: rest)) :=
  k_iast hM hw hk hsh (vp_in_nI hi hn) hdg (by rw [nI_clamp (Nat.lt_trans hi hn)]; exact kk)
theorem k_ald7N {i : Nat} (hM : Mc g p s m args meth c cc nL own) (hw : Ws g s κ H locs) (h : kd k = 1) (hi : i < 3) (hdg : decode cc pc = .ok (.aaload, 1))
    (kk : W p l e R s m args below meth c H locs cells slots Q (F0 m (pc + 1) ls (.ref (g.2.2 (k + 4 + i)) :: rest))) : W p l e R s m args below meth c H locs cells slots Q (F0 m pc ls (.int (nI i) :: .ref (g.2.2 (k + 1)) :: rest)) :=
  k_ald7 hM hw h (vp_in_nI hi (by decide)) hdg (by rw [nI_clamp (by omega)]; exact kk)
theorem k_ald8N {i : Nat} (hM : Mc g p s m args meth c cc nL own) (hw : Ws g s κ H locs) (h : kd k = 1) (hi : i < 6) (hdg : decode cc pc = .ok (.aaload, 1))
    (kk : W p l e R s m args below meth c H locs cells slots Q (F0 m (pc + 1) ls (.ref (g.2.2 (k + 7 + i)) :: rest))) : W p l e R s m args below meth c H locs cells slots Q (F0 m pc ls (.int (nI i) :: .ref (g.2.2 (k + 2)) :: rest)) :=
  k_ald8 hM hw h (vp_in_nI hi (by decide)) hdg (by rw [nI_clamp (by omega)]; exact kk)
theorem k_ald9N {i : Nat} (hM : Mc g p s m args meth c cc nL own) (hw : Ws g s κ H locs) (h : kd k = 1) (hi : i < 16) (hdg : decode cc pc = .ok (.aaload, 1))
    (kk : W p l e R s m args below meth c H locs cells slots Q (F0 m (pc + 1) ls (.ref (g.2.2 (k + 13 + 2 * i)) :: rest))) : W p l e R s m args below meth c H locs cells slots Q (F0 m pc ls (.int (nI i) :: .ref (g.2.2 (k + 3)) :: rest)) :=
  k_ald9 hM hw h (vp_in_nI hi (by decide)) hdg (by rw [nI_clamp (by omega)]; exact kk)
theorem k_cepO {v : Option Nat} (hw : Ws g s κ H locs) (hr : va_Run p l e R s m args below meth c H locs cells slots mc ms (F0 m pc ls st0) rest (va_Qe g.2.2 (fun r κ' => r = v ∧ κ' = κ) (Wp g) (fr g H.size) arr) (fr g H.size))
    (kn : ∀ (H1 : Heap) (locs1 : List Loc), v = none → Ws g s κ H1 locs1 → W p l e R s m args below meth c H1 locs1 (cells + mc) (slots + ms) Q (F0 m (pc + 3) ls (.null :: rest)))
    (kk : ∀ (p1 : Nat) (H1 : Heap) (locs1 : List Loc), v = some p1 → Ws g s κ H1 locs1 → W p l e R s m args below meth c H1 locs1 (cells + mc) (slots + ms) Q (F0 m (pc + 3) ls (.ref (g.2.2 p1) :: rest))) : W p l e R s m args below meth c H locs cells slots Q (F0 m pc ls st0) := by
  refine k_cep hw hr (fun H1 locs1 hw1 => ?_)
  cases v with
  | none => exact kn H1 locs1 rfl hw1
  | some p1 => exact kk p1 H1 locs1 rfl hw1
end KN
end
section
theorem q_X0_copyFrom : hdV yX0_copyFrom RX0 1 := ⟨rfl, by decide +kernel, by decide +kernel, by decide +kernel⟩
def f_X0_copyFrom (κ : Kp) (k : Nat) (q : Nat) : Kp := (fun κ1 : Kp => (fun κ2 : Kp => (fun κ3 : Kp => κ3) (up2 κ2 (k) 2 (κ2 (q) 2))) (up2 κ1 (k) 1 (κ1 (q) 1))) (up2 κ (k) 0 (κ (q) 0))
set_option maxRecDepth 100000 in
set_option maxHeartbeats 4000000 in
theorem m_X0_copyFrom (l : Launch) (g : Gt) (κ : Kp) (sz : Nat) (k : Nat) (q : Nat) (hk : kd k = 0) (hq : kd q = 0) : Met l yX0_copyFrom (.code yX0_copyFrom cX0_copyFrom 2 none :: uW) { frames := 0, cells := 0, slots := 0, locals := 0 } (PRE g κ sz [.ref (g.2.2 (k)), .ref (g.2.2 (q))]) (va_Qv (fun κ' => κ' = f_X0_copyFrom κ k q) (Wp g) (fr g sz)) 0 0 (fr g sz) := by
  refine k_enter (by decide +kernel) (Nat.le_of_ble_eq_true rfl) ?_
  intro p e s m below meth c ls hM hr hl hw hsz
  subst hsz
  have hl : lv_has ls 2 [(0, .ref (g.2.2 (k))), (1, .ref (g.2.2 (q)))] := hl
  have hF := f_X0_copyFrom.eq_1 κ k q
  refine lv_aload_n hM.x hM.b dX0_copyFrom_0 rfl (lv_at hl 0 rfl) ?_
  refine lv_aload_n hM.x hM.b dX0_copyFrom_1 rfl (lv_at hl 1 rfl) ?_
  refine k_get0 0 hM hw hq (by decide) u_fl_X0_9 dX0_copyFrom_2 ?_
  refine k_put0 0 hM hw hk (by decide) u_fl_X0_9 dX0_copyFrom_5 (fun H locs hw => ?_)
  obtain ⟨κ1, eκ1⟩ : ∃ z : Kp, up2 κ (k) 0 (κ (q) 0) = z := ⟨_, rfl⟩
  rw [eκ1] at hw
  rw [eκ1] at hF
  try dsimp only at hF
  refine lv_aload_n hM.x hM.b dX0_copyFrom_8 rfl (lv_at hl 0 rfl) ?_
  refine lv_aload_n hM.x hM.b dX0_copyFrom_9 rfl (lv_at hl 1 rfl) ?_
  refine k_get0 1 hM hw hq (by decide) u_fl_X0_15 dX0_copyFrom_10 ?_
  refine k_put0 1 hM hw hk (by decide) u_fl_X0_15 dX0_copyFrom_13 (fun H locs hw => ?_)
  obtain ⟨κ2, eκ2⟩ : ∃ z : Kp, up2 κ1 (k) 1 (κ1 (q) 1) = z := ⟨_, rfl⟩
  rw [eκ2] at hw
  rw [eκ2] at hF
  try dsimp only at hF
  refine lv_aload_n hM.x hM.b dX0_copyFrom_16 rfl (lv_at hl 0 rfl) ?_
  refine lv_aload_n hM.x hM.b dX0_copyFrom_17 rfl (lv_at hl 1 rfl) ?_
  refine k_get0 2 hM hw hq (by decide) u_fl_X0_18 dX0_copyFrom_18 ?_
  refine k_put0 2 hM hw hk (by decide) u_fl_X0_18 dX0_copyFrom_21 (fun H locs hw => ?_)
  obtain ⟨κ3, eκ3⟩ : ∃ z : Kp, up2 κ2 (k) 2 (κ2 (q) 2) = z := ⟨_, rfl⟩
  rw [eκ3] at hw
  rw [eκ3] at hF
  try dsimp only at hF
  exact k_vret hM hr hw (Nat.le_of_ble_eq_true rfl) (Nat.le_of_ble_eq_true rfl) hF.symm dX0_copyFrom_24
theorem q_X0_burn : hdV yX0_burn RX0 1 := ⟨rfl, by decide +kernel, by decide +kernel, by decide +kernel⟩
def f_X0_burn (κ : Kp) (k : Nat) (a : Int32) : Kp := if (κ (k) 0) ≤ 0 then ((fun κ1 : Kp => (fun κ2 : Kp => κ2) (up2 κ1 (k) 2 (0))) (up2 κ (k) 1 ((if (0) < ((if (((κ (k) 1) + (((κ (k) 2) + ((-1)))))) < (9) then (((κ (k) 1) + (((κ (k) 2) + ((-1)))))) else (9))) then ((if (((κ (k) 1) + (((κ (k) 2) + ((-1)))))) < (9) then (((κ (k) 1) + (((κ (k) 2) + ((-1)))))) else (9))) else (0))))) else (if (((a) - (a) / (5) * (5))) = 0 then ((fun κ5 : Kp => (fun κ6 : Kp => (fun κ7 : Kp => κ7) (up2 κ6 (k) 2 (0))) (up2 κ5 (k) 1 ((if (0) < ((if (((κ5 (k) 1) + (((κ (k) 2) + (1))))) < (9) then (((κ5 (k) 1) + (((κ (k) 2) + (1))))) else (9))) then ((if (((κ5 (k) 1) + (((κ (k) 2) + (1))))) < (9) then (((κ5 (k) 1) + (((κ (k) 2) + (1))))) else (9))) else (0))))) (up2 κ (k) 0 (((κ (k) 0) - (1))))) else ((fun κ3 : Kp => (fun κ4 : Kp => κ4) (up2 κ3 (k) 2 (0))) (up2 κ (k) 1 ((if (0) < ((if (((κ (k) 1) + (((κ (k) 2) + (1))))) < (9) then (((κ (k) 1) + (((κ (k) 2) + (1))))) else (9))) then ((if (((κ (k) 1) + (((κ (k) 2) + (1))))) < (9) then (((κ (k) 1) + (((κ (k) 2) + (1))))) else (9))) else (0))))))
set_option maxRecDepth 100000 in
set_option maxHeartbeats 4000000 in
theorem m_X0_burn (l : Launch) (g : Gt) (κ : Kp) (sz : Nat) (k : Nat) (a : Int32) (hk : kd k = 0) : Met l yX0_burn (.code yX0_burn cX0_burn 3 none :: uW) { frames := 1, cells := 0, slots := 0, locals := 30 } (PRE g κ sz [.ref (g.2.2 (k)), .int (a)]) (va_Qv (fun κ' => κ' = f_X0_burn κ k a) (Wp g) (fr g sz)) 0 0 (fr g sz) := by
  refine k_enter (by decide +kernel) (Nat.le_of_ble_eq_true rfl) ?_
  intro p e s m below meth c ls hM hr hl hw hsz
  subst hsz
  have hl : lv_has ls 3 [(0, .ref (g.2.2 (k))), (1, .int (a))] := hl
  have hF := f_X0_burn.eq_1 κ k a
  refine lv_aload_n hM.x hM.b dX0_burn_0 rfl (lv_at hl 0 rfl) ?_
  refine k_get0 2 hM hw hk (by decide) u_fl_X0_18 dX0_burn_1 ?_
  refine lv_aload_n hM.x hM.b dX0_burn_4 rfl (lv_at hl 0 rfl) ?_
  refine k_get0 0 hM hw hk (by decide) u_fl_X0_9 dX0_burn_5 ?_
  refine lv_if_le (tgt := 15) hM.x hM.b dX0_burn_8 (by decide) (fun c1 => ?_) (fun c1 => ?_)
  · rw [if_pos c1] at hF
    refine lv_iconst (v := -1) hM.x hM.b dX0_burn_15 (by decide) ?_
    refine lv_iadd hM.x hM.b dX0_burn_16 ?_
    refine lv_istore_n (lv' := [(2, .int (((κ (k) 2) + ((-1))))), (0, .ref (g.2.2 (k))), (1, .int (a))]) hM.x hM.b dX0_burn_17 rfl hl (by decide) rfl (fun ls hl => ?_)
    refine lv_aload_n hM.x hM.b dX0_burn_18 rfl (lv_at hl 1 rfl) ?_
    refine k_get0 0 hM hw hk (by decide) u_fl_X0_9 dX0_burn_19 ?_
    refine lv_if_le (tgt := 41) hM.x hM.b dX0_burn_22 (by decide) (fun _ => ?_) (fun cz => absurd c1 cz)
    refine lv_aload_n hM.x hM.b dX0_burn_41 rfl (lv_at hl 1 rfl) ?_
    refine lv_iconst (v := 0) hM.x hM.b dX0_burn_42 (by decide) ?_
    refine lv_bipush (v := 9) hM.x hM.b dX0_burn_43 (by decide) ?_
    refine lv_aload_n hM.x hM.b dX0_burn_45 rfl (lv_at hl 1 rfl) ?_
    refine k_get0 1 hM hw hk (by decide) u_fl_X0_15 dX0_burn_46 ?_
    refine lv_iload_n hM.x hM.b dX0_burn_49 rfl (lv_at hl 0 rfl) ?_
    refine lv_iadd hM.x hM.b dX0_burn_50 ?_
    refine va_mmin hM.x hM.b (hM.ml.trans hl.1.symm) hM.ow (hM.ts _ u_ml_X0_21) (hM.ts _ u_st_JM_min) (hM.ts _ u_ini_JM) (hM.ts _ u_co_JM_min) (Nat.le_of_ble_eq_true rfl) (Nat.le_of_ble_eq_true rfl) (Nat.le_of_ble_eq_true rfl) (Nat.le_of_ble_eq_true rfl) dX0_burn_51 ?_
    refine va_mmax hM.x hM.b (hM.ml.trans hl.1.symm) hM.ow (hM.ts _ u_ml_X0_27) (hM.ts _ u_st_JM_max) (hM.ts _ u_ini_JM) (hM.ts _ u_co_JM_max) (Nat.le_of_ble_eq_true rfl) (Nat.le_of_ble_eq_true rfl) (Nat.le_of_ble_eq_true rfl) (Nat.le_of_ble_eq_true rfl) dX0_burn_54 ?_
    refine k_put0 1 hM hw hk (by decide) u_fl_X0_15 dX0_burn_57 (fun H locs hw => ?_)
    obtain ⟨κ1, eκ1⟩ : ∃ z : Kp, up2 κ (k) 1 ((if (0) < ((if (((κ (k) 1) + (((κ (k) 2) + ((-1)))))) < (9) then (((κ (k) 1) + (((κ (k) 2) + ((-1)))))) else (9))) then ((if (((κ (k) 1) + (((κ (k) 2) + ((-1)))))) < (9) then (((κ (k) 1) + (((κ (k) 2) + ((-1)))))) else (9))) else (0))) = z := ⟨_, rfl⟩
    rw [eκ1] at hw
    rw [eκ1] at hF
    try dsimp only at hF
    refine lv_aload_n hM.x hM.b dX0_burn_60 rfl (lv_at hl 1 rfl) ?_
    refine lv_iconst (v := 0) hM.x hM.b dX0_burn_61 (by decide) ?_
    refine k_put0 2 hM hw hk (by decide) u_fl_X0_18 dX0_burn_62 (fun H locs hw => ?_)
    obtain ⟨κ2, eκ2⟩ : ∃ z : Kp, up2 κ1 (k) 2 (0) = z := ⟨_, rfl⟩
    rw [eκ2] at hw
    rw [eκ2] at hF
    try dsimp only at hF
    exact k_vret hM hr hw (Nat.le_of_ble_eq_true rfl) (Nat.le_of_ble_eq_true rfl) hF.symm dX0_burn_65
  · rw [if_neg c1] at hF
    refine lv_iconst (v := 1) hM.x hM.b dX0_burn_11 (by decide) ?_
    refine lv_goto (tgt := 16) hM.x hM.b dX0_burn_12 (by decide) ?_
    refine lv_iadd hM.x hM.b dX0_burn_16 ?_
    refine lv_istore_n (lv' := [(2, .int (((κ (k) 2) + (1)))), (0, .ref (g.2.2 (k))), (1, .int (a))]) hM.x hM.b dX0_burn_17 rfl hl (by decide) rfl (fun ls hl => ?_)
    refine lv_aload_n hM.x hM.b dX0_burn_18 rfl (lv_at hl 1 rfl) ?_
    refine k_get0 0 hM hw hk (by decide) u_fl_X0_9 dX0_burn_19 ?_
    refine lv_if_le (tgt := 41) hM.x hM.b dX0_burn_22 (by decide) (fun cz => absurd cz c1) (fun _ => ?_)
    refine lv_iload_n hM.x hM.b dX0_burn_25 rfl (lv_at hl 2 rfl) ?_
    refine lv_iconst (v := 5) hM.x hM.b dX0_burn_26 (by decide) ?_
    refine lv_irem hM.x hM.b dX0_burn_27 (by decide) ?_
    refine lv_if_ne (tgt := 41) hM.x hM.b dX0_burn_28 (by decide) (fun c2 => ?_) (fun c2 => ?_)
    · rw [if_neg c2] at hF
      refine lv_aload_n hM.x hM.b dX0_burn_41 rfl (lv_at hl 1 rfl) ?_
      refine lv_iconst (v := 0) hM.x hM.b dX0_burn_42 (by decide) ?_
      refine lv_bipush (v := 9) hM.x hM.b dX0_burn_43 (by decide) ?_
      refine lv_aload_n hM.x hM.b dX0_burn_45 rfl (lv_at hl 1 rfl) ?_
      refine k_get0 1 hM hw hk (by decide) u_fl_X0_15 dX0_burn_46 ?_
      refine lv_iload_n hM.x hM.b dX0_burn_49 rfl (lv_at hl 0 rfl) ?_
      refine lv_iadd hM.x hM.b dX0_burn_50 ?_
      refine va_mmin hM.x hM.b (hM.ml.trans hl.1.symm) hM.ow (hM.ts _ u_ml_X0_21) (hM.ts _ u_st_JM_min) (hM.ts _ u_ini_JM) (hM.ts _ u_co_JM_min) (Nat.le_of_ble_eq_true rfl) (Nat.le_of_ble_eq_true rfl) (Nat.le_of_ble_eq_true rfl) (Nat.le_of_ble_eq_true rfl) dX0_burn_51 ?_
      refine va_mmax hM.x hM.b (hM.ml.trans hl.1.symm) hM.ow (hM.ts _ u_ml_X0_27) (hM.ts _ u_st_JM_max) (hM.ts _ u_ini_JM) (hM.ts _ u_co_JM_max) (Nat.le_of_ble_eq_true rfl) (Nat.le_of_ble_eq_true rfl) (Nat.le_of_ble_eq_true rfl) (Nat.le_of_ble_eq_true rfl) dX0_burn_54 ?_
      refine k_put0 1 hM hw hk (by decide) u_fl_X0_15 dX0_burn_57 (fun H locs hw => ?_)
      obtain ⟨κ3, eκ3⟩ : ∃ z : Kp, up2 κ (k) 1 ((if (0) < ((if (((κ (k) 1) + (((κ (k) 2) + (1))))) < (9) then (((κ (k) 1) + (((κ (k) 2) + (1))))) else (9))) then ((if (((κ (k) 1) + (((κ (k) 2) + (1))))) < (9) then (((κ (k) 1) + (((κ (k) 2) + (1))))) else (9))) else (0))) = z := ⟨_, rfl⟩
      rw [eκ3] at hw
      rw [eκ3] at hF
      try dsimp only at hF
      refine lv_aload_n hM.x hM.b dX0_burn_60 rfl (lv_at hl 1 rfl) ?_
      refine lv_iconst (v := 0) hM.x hM.b dX0_burn_61 (by decide) ?_
      refine k_put0 2 hM hw hk (by decide) u_fl_X0_18 dX0_burn_62 (fun H locs hw => ?_)
      obtain ⟨κ4, eκ4⟩ : ∃ z : Kp, up2 κ3 (k) 2 (0) = z := ⟨_, rfl⟩
      rw [eκ4] at hw
      rw [eκ4] at hF
      try dsimp only at hF
      exact k_vret hM hr hw (Nat.le_of_ble_eq_true rfl) (Nat.le_of_ble_eq_true rfl) hF.symm dX0_burn_65
    · rw [if_pos c2] at hF
      refine lv_aload_n hM.x hM.b dX0_burn_31 rfl (lv_at hl 1 rfl) ?_
      refine lv_dup hM.x hM.b dX0_burn_32 rfl ?_
      refine k_get0 0 hM hw hk (by decide) u_fl_X0_9 dX0_burn_33 ?_
      refine lv_iconst (v := 1) hM.x hM.b dX0_burn_36 (by decide) ?_
      refine lv_isub hM.x hM.b dX0_burn_37 ?_
      refine k_put0 0 hM hw hk (by decide) u_fl_X0_9 dX0_burn_38 (fun H locs hw => ?_)
      obtain ⟨κ5, eκ5⟩ : ∃ z : Kp, up2 κ (k) 0 (((κ (k) 0) - (1))) = z := ⟨_, rfl⟩
      rw [eκ5] at hw
      rw [eκ5] at hF
      try dsimp only at hF
      refine lv_aload_n hM.x hM.b dX0_burn_41 rfl (lv_at hl 1 rfl) ?_
      refine lv_iconst (v := 0) hM.x hM.b dX0_burn_42 (by decide) ?_
      refine lv_bipush (v := 9) hM.x hM.b dX0_burn_43 (by decide) ?_
      refine lv_aload_n hM.x hM.b dX0_burn_45 rfl (lv_at hl 1 rfl) ?_
      refine k_get0 1 hM hw hk (by decide) u_fl_X0_15 dX0_burn_46 ?_
      refine lv_iload_n hM.x hM.b dX0_burn_49 rfl (lv_at hl 0 rfl) ?_
      refine lv_iadd hM.x hM.b dX0_burn_50 ?_
      refine va_mmin hM.x hM.b (hM.ml.trans hl.1.symm) hM.ow (hM.ts _ u_ml_X0_21) (hM.ts _ u_st_JM_min) (hM.ts _ u_ini_JM) (hM.ts _ u_co_JM_min) (Nat.le_of_ble_eq_true rfl) (Nat.le_of_ble_eq_true rfl) (Nat.le_of_ble_eq_true rfl) (Nat.le_of_ble_eq_true rfl) dX0_burn_51 ?_
      refine va_mmax hM.x hM.b (hM.ml.trans hl.1.symm) hM.ow (hM.ts _ u_ml_X0_27) (hM.ts _ u_st_JM_max) (hM.ts _ u_ini_JM) (hM.ts _ u_co_JM_max) (Nat.le_of_ble_eq_true rfl) (Nat.le_of_ble_eq_true rfl) (Nat.le_of_ble_eq_true rfl) (Nat.le_of_ble_eq_true rfl) dX0_burn_54 ?_
      refine k_put0 1 hM hw hk (by decide) u_fl_X0_15 dX0_burn_57 (fun H locs hw => ?_)
      obtain ⟨κ6, eκ6⟩ : ∃ z : Kp, up2 κ5 (k) 1 ((if (0) < ((if (((κ5 (k) 1) + (((κ (k) 2) + (1))))) < (9) then (((κ5 (k) 1) + (((κ (k) 2) + (1))))) else (9))) then ((if (((κ5 (k) 1) + (((κ (k) 2) + (1))))) < (9) then (((κ5 (k) 1) + (((κ (k) 2) + (1))))) else (9))) else (0))) = z := ⟨_, rfl⟩
      rw [eκ6] at hw
      rw [eκ6] at hF
      try dsimp only at hF
      refine lv_aload_n hM.x hM.b dX0_burn_60 rfl (lv_at hl 1 rfl) ?_
      refine lv_iconst (v := 0) hM.x hM.b dX0_burn_61 (by decide) ?_
      refine k_put0 2 hM hw hk (by decide) u_fl_X0_18 dX0_burn_62 (fun H locs hw => ?_)
      obtain ⟨κ7, eκ7⟩ : ∃ z : Kp, up2 κ6 (k) 2 (0) = z := ⟨_, rfl⟩
      rw [eκ7] at hw
      rw [eκ7] at hF
      try dsimp only at hF
      exact k_vret hM hr hw (Nat.le_of_ble_eq_true rfl) (Nat.le_of_ble_eq_true rfl) hF.symm dX0_burn_65
theorem q_X3_copyFrom : hdV yX3_copyFrom RX3 1 := ⟨rfl, by decide +kernel, by decide +kernel, by decide +kernel⟩
def f_X3_copyFrom (κ : Kp) (k : Nat) (q : Nat) : Kp := (fun κ1 : Kp => (fun κ2 : Kp => (fun κ3 : Kp => (fun κ4 : Kp => (fun κ5 : Kp => (fun κ6 : Kp => κ6) (up2 κ5 (k) 5 (κ5 (q) 5))) (up2 κ4 (k) 4 (κ4 (q) 4))) (up2 κ3 (k) 3 (κ3 (q) 3))) (up2 κ2 (k) 2 (κ2 (q) 2))) (up2 κ1 (k) 1 (κ1 (q) 1))) (up2 κ (k) 0 (κ (q) 0))
set_option maxRecDepth 100000 in
set_option maxHeartbeats 4000000 in
theorem m_X3_copyFrom (l : Launch) (g : Gt) (κ : Kp) (sz : Nat) (k : Nat) (q : Nat) (hk : kd k = 3) (hq : kd q = 3) : Met l yX3_copyFrom (.code yX3_copyFrom cX3_copyFrom 2 none :: uW) { frames := 0, cells := 0, slots := 0, locals := 0 } (PRE g κ sz [.ref (g.2.2 (k)), .ref (g.2.2 (q))]) (va_Qv (fun κ' => κ' = f_X3_copyFrom κ k q) (Wp g) (fr g sz)) 0 0 (fr g sz) := by
  refine k_enter (by decide +kernel) (Nat.le_of_ble_eq_true rfl) ?_
  intro p e s m below meth c ls hM hr hl hw hsz
  subst hsz
  have hl : lv_has ls 2 [(0, .ref (g.2.2 (k))), (1, .ref (g.2.2 (q)))] := hl
  have hF := f_X3_copyFrom.eq_1 κ k q
  refine lv_aload_n hM.x hM.b dX3_copyFrom_0 rfl (lv_at hl 0 rfl) ?_
  refine lv_aload_n hM.x hM.b dX3_copyFrom_1 rfl (lv_at hl 1 rfl) ?_
  refine k_get3 0 hM hw hq (by decide) u_fl_X3_15 dX3_copyFrom_2 ?_
  refine k_put3 0 hM hw hk (by decide) u_fl_X3_15 dX3_copyFrom_5 (fun H locs hw => ?_)
  obtain ⟨κ1, eκ1⟩ : ∃ z : Kp, up2 κ (k) 0 (κ (q) 0) = z := ⟨_, rfl⟩
  rw [eκ1] at hw
  rw [eκ1] at hF
  try dsimp only at hF
  refine lv_aload_n hM.x hM.b dX3_copyFrom_8 rfl (lv_at hl 0 rfl) ?_
  refine lv_aload_n hM.x hM.b dX3_copyFrom_9 rfl (lv_at hl 1 rfl) ?_
  refine k_get3 1 hM hw hq (by decide) u_fl_X3_18 dX3_copyFrom_10 ?_
  refine k_put3 1 hM hw hk (by decide) u_fl_X3_18 dX3_copyFrom_13 (fun H locs hw => ?_)
  obtain ⟨κ2, eκ2⟩ : ∃ z : Kp, up2 κ1 (k) 1 (κ1 (q) 1) = z := ⟨_, rfl⟩
  rw [eκ2] at hw
  rw [eκ2] at hF
  try dsimp only at hF
  refine lv_aload_n hM.x hM.b dX3_copyFrom_16 rfl (lv_at hl 0 rfl) ?_
  refine lv_aload_n hM.x hM.b dX3_copyFrom_17 rfl (lv_at hl 1 rfl) ?_
  refine k_get3 2 hM hw hq (by decide) u_fl_X3_21 dX3_copyFrom_18 ?_
  refine k_put3 2 hM hw hk (by decide) u_fl_X3_21 dX3_copyFrom_21 (fun H locs hw => ?_)
  obtain ⟨κ3, eκ3⟩ : ∃ z : Kp, up2 κ2 (k) 2 (κ2 (q) 2) = z := ⟨_, rfl⟩
  rw [eκ3] at hw
  rw [eκ3] at hF
  try dsimp only at hF
  refine lv_aload_n hM.x hM.b dX3_copyFrom_24 rfl (lv_at hl 0 rfl) ?_
  refine lv_aload_n hM.x hM.b dX3_copyFrom_25 rfl (lv_at hl 1 rfl) ?_
  refine k_get3 3 hM hw hq (by decide) u_fl_X3_24 dX3_copyFrom_26 ?_
  refine k_put3 3 hM hw hk (by decide) u_fl_X3_24 dX3_copyFrom_29 (fun H locs hw => ?_)
  obtain ⟨κ4, eκ4⟩ : ∃ z : Kp, up2 κ3 (k) 3 (κ3 (q) 3) = z := ⟨_, rfl⟩
  rw [eκ4] at hw
  rw [eκ4] at hF
  try dsimp only at hF
  refine lv_aload_n hM.x hM.b dX3_copyFrom_32 rfl (lv_at hl 0 rfl) ?_
  refine lv_aload_n hM.x hM.b dX3_copyFrom_33 rfl (lv_at hl 1 rfl) ?_
  refine k_get3 4 hM hw hq (by decide) u_fl_X3_27 dX3_copyFrom_34 ?_
  refine k_put3 4 hM hw hk (by decide) u_fl_X3_27 dX3_copyFrom_37 (fun H locs hw => ?_)
  obtain ⟨κ5, eκ5⟩ : ∃ z : Kp, up2 κ4 (k) 4 (κ4 (q) 4) = z := ⟨_, rfl⟩
  rw [eκ5] at hw
  rw [eκ5] at hF
  try dsimp only at hF
  refine lv_aload_n hM.x hM.b dX3_copyFrom_40 rfl (lv_at hl 0 rfl) ?_
  refine lv_aload_n hM.x hM.b dX3_copyFrom_41 rfl (lv_at hl 1 rfl) ?_
  refine k_get3 5 hM hw hq (by decide) u_fl_X3_9 dX3_copyFrom_42 ?_
  refine k_put3 5 hM hw hk (by decide) u_fl_X3_9 dX3_copyFrom_45 (fun H locs hw => ?_)
  obtain ⟨κ6, eκ6⟩ : ∃ z : Kp, up2 κ5 (k) 5 (κ5 (q) 5) = z := ⟨_, rfl⟩
  rw [eκ6] at hw
  rw [eκ6] at hF
  try dsimp only at hF
  exact k_vret hM hr hw (Nat.le_of_ble_eq_true rfl) (Nat.le_of_ble_eq_true rfl) hF.symm dX3_copyFrom_48
theorem q_X3_countAnew : hdV yX3_countAnew RX3 1 := ⟨rfl, by decide +kernel, by decide +kernel, by decide +kernel⟩
def f_X3_countAnew (κ : Kp) (k : Nat) (a : Int32) : Kp := (fun κ1 : Kp => (fun κ2 : Kp => κ2) (up2 κ1 (k) 3 (0))) (up2 κ (k) 2 (a))
set_option maxRecDepth 100000 in
set_option maxHeartbeats 4000000 in
theorem m_X3_countAnew (l : Launch) (g : Gt) (κ : Kp) (sz : Nat) (k : Nat) (a : Int32) (hk : kd k = 3) : Met l yX3_countAnew (.code yX3_countAnew cX3_countAnew 2 none :: uW) { frames := 0, cells := 0, slots := 0, locals := 0 } (PRE g κ sz [.ref (g.2.2 (k)), .int (a)]) (va_Qv (fun κ' => κ' = f_X3_countAnew κ k a) (Wp g) (fr g sz)) 0 0 (fr g sz) := by
  refine k_enter (by decide +kernel) (Nat.le_of_ble_eq_true rfl) ?_
  intro p e s m below meth c ls hM hr hl hw hsz
  subst hsz
  have hl : lv_has ls 2 [(0, .ref (g.2.2 (k))), (1, .int (a))] := hl
  have hF := f_X3_countAnew.eq_1 κ k a
  refine lv_aload_n hM.x hM.b dX3_countAnew_0 rfl (lv_at hl 0 rfl) ?_
  refine lv_iload_n hM.x hM.b dX3_countAnew_1 rfl (lv_at hl 1 rfl) ?_
  refine k_put3 2 hM hw hk (by decide) u_fl_X3_21 dX3_countAnew_2 (fun H locs hw => ?_)
  obtain ⟨κ1, eκ1⟩ : ∃ z : Kp, up2 κ (k) 2 (a) = z := ⟨_, rfl⟩
  rw [eκ1] at hw
  rw [eκ1] at hF
  try dsimp only at hF
  refine lv_aload_n hM.x hM.b dX3_countAnew_5 rfl (lv_at hl 0 rfl) ?_
  refine lv_iconst (v := 0) hM.x hM.b dX3_countAnew_6 (by decide) ?_
  refine k_put3 3 hM hw hk (by decide) u_fl_X3_24 dX3_countAnew_7 (fun H locs hw => ?_)
  obtain ⟨κ2, eκ2⟩ : ∃ z : Kp, up2 κ1 (k) 3 (0) = z := ⟨_, rfl⟩
  rw [eκ2] at hw
  rw [eκ2] at hF
  try dsimp only at hF
  exact k_vret hM hr hw (Nat.le_of_ble_eq_true rfl) (Nat.le_of_ble_eq_true rfl) hF.symm dX3_countAnew_10
theorem q_X3_countsToTurn : hdV yX3_countsToTurn RX3 0 := ⟨rfl, by decide +kernel, by decide +kernel, by decide +kernel⟩
def f_X3_countsToTurn (κ : Kp) (k : Nat) : Int32 × Kp := (fun κ1 : Kp => if (κ1 (k) 2) ≤ 0 then ((bi false, κ1)) else (if (((κ1 (k) 3) - (κ1 (k) 3) / (κ1 (k) 2) * (κ1 (k) 2))) = 0 then ((bi true, κ1)) else ((bi false, κ1)))) (up2 κ (k) 3 (((κ (k) 3) + (1))))
set_option maxRecDepth 100000 in
set_option maxHeartbeats 4000000 in
theorem m_X3_countsToTurn (l : Launch) (g : Gt) (κ : Kp) (sz : Nat) (k : Nat) (hk : kd k = 3) : Met l yX3_countsToTurn (.code yX3_countsToTurn cX3_countsToTurn 1 (some .boolean) :: uW) { frames := 0, cells := 0, slots := 0, locals := 0 } (PRE g κ sz [.ref (g.2.2 (k))]) (va_Qi (fun r κ' => f_X3_countsToTurn κ k = (r, κ')) (Wp g) (fr g sz)) 0 0 (fr g sz) := by
  refine k_enter (by decide +kernel) (Nat.le_of_ble_eq_true rfl) ?_
  intro p e s m below meth c ls hM hr hl hw hsz
  subst hsz
  have hl : lv_has ls 1 [(0, .ref (g.2.2 (k)))] := hl
  have hF := f_X3_countsToTurn.eq_1 κ k
  refine lv_aload_n hM.x hM.b dX3_countsToTurn_0 rfl (lv_at hl 0 rfl) ?_
  refine lv_dup hM.x hM.b dX3_countsToTurn_1 rfl ?_
  refine k_get3 3 hM hw hk (by decide) u_fl_X3_24 dX3_countsToTurn_2 ?_
  refine lv_iconst (v := 1) hM.x hM.b dX3_countsToTurn_5 (by decide) ?_
  refine lv_iadd hM.x hM.b dX3_countsToTurn_6 ?_
  refine k_put3 3 hM hw hk (by decide) u_fl_X3_24 dX3_countsToTurn_7 (fun H locs hw => ?_)
  obtain ⟨κ1, eκ1⟩ : ∃ z : Kp, up2 κ (k) 3 (((κ (k) 3) + (1))) = z := ⟨_, rfl⟩
  rw [eκ1] at hw
  rw [eκ1] at hF
  try dsimp only at hF
  refine lv_aload_n hM.x hM.b dX3_countsToTurn_10 rfl (lv_at hl 0 rfl) ?_
  refine k_get3 2 hM hw hk (by decide) u_fl_X3_21 dX3_countsToTurn_11 ?_
  refine lv_if_le (tgt := 33) hM.x hM.b dX3_countsToTurn_14 (by decide) (fun c1 => ?_) (fun c1 => ?_)
  · rw [if_pos c1] at hF
    refine lv_iconst (v := 0) hM.x hM.b dX3_countsToTurn_33 (by decide) ?_
    exact k_zret (b := false) hM hr hw (Nat.le_of_ble_eq_true rfl) (Nat.le_of_ble_eq_true rfl) hF dX3_countsToTurn_34
  · rw [if_neg c1] at hF
    refine lv_aload_n hM.x hM.b dX3_countsToTurn_17 rfl (lv_at hl 0 rfl) ?_
    refine k_get3 3 hM hw hk (by decide) u_fl_X3_24 dX3_countsToTurn_18 ?_
    refine lv_aload_n hM.x hM.b dX3_countsToTurn_21 rfl (lv_at hl 0 rfl) ?_
    refine k_get3 2 hM hw hk (by decide) u_fl_X3_21 dX3_countsToTurn_22 ?_
    refine lv_irem hM.x hM.b dX3_countsToTurn_25 (nz_pos1 c1) ?_
    refine lv_if_ne (tgt := 33) hM.x hM.b dX3_countsToTurn_26 (by decide) (fun c2 => ?_) (fun c2 => ?_)
    · rw [if_neg c2] at hF
      refine lv_iconst (v := 0) hM.x hM.b dX3_countsToTurn_33 (by decide) ?_
      exact k_zret (b := false) hM hr hw (Nat.le_of_ble_eq_true rfl) (Nat.le_of_ble_eq_true rfl) hF dX3_countsToTurn_34
    · rw [if_pos c2] at hF
      refine lv_iconst (v := 1) hM.x hM.b dX3_countsToTurn_29 (by decide) ?_
      refine lv_goto (tgt := 34) hM.x hM.b dX3_countsToTurn_30 (by decide) ?_
      exact k_zret (b := true) hM hr hw (Nat.le_of_ble_eq_true rfl) (Nat.le_of_ble_eq_true rfl) hF dX3_countsToTurn_34
theorem q_X3_takesDripping : hdV yX3_takesDripping RX3 0 := ⟨rfl, by decide +kernel, by decide +kernel, by decide +kernel⟩
def f_X3_takesDripping (κ : Kp) (k : Nat) : Int32 × Kp := if (κ (k) 4) < (20) then ((fun κ1 : Kp => (bi true, κ1)) (up2 κ (k) 4 (((κ (k) 4) + (1))))) else ((bi false, κ))
set_option maxRecDepth 100000 in
set_option maxHeartbeats 4000000 in
theorem m_X3_takesDripping (l : Launch) (g : Gt) (κ : Kp) (sz : Nat) (k : Nat) (hk : kd k = 3) : Met l yX3_takesDripping (.code yX3_takesDripping cX3_takesDripping 1 (some .boolean) :: uW) { frames := 0, cells := 0, slots := 0, locals := 0 } (PRE g κ sz [.ref (g.2.2 (k))]) (va_Qi (fun r κ' => f_X3_takesDripping κ k = (r, κ')) (Wp g) (fr g sz)) 0 0 (fr g sz) := by
  refine k_enter (by decide +kernel) (Nat.le_of_ble_eq_true rfl) ?_
  intro p e s m below meth c ls hM hr hl hw hsz
  subst hsz
  have hl : lv_has ls 1 [(0, .ref (g.2.2 (k)))] := hl
  have hF := f_X3_takesDripping.eq_1 κ k
  refine lv_aload_n hM.x hM.b dX3_takesDripping_0 rfl (lv_at hl 0 rfl) ?_
  refine k_get3 4 hM hw hk (by decide) u_fl_X3_27 dX3_takesDripping_1 ?_
  refine lv_bipush (v := 20) hM.x hM.b dX3_takesDripping_4 (by decide) ?_
  refine lv_icmp_lt (tgt := 11) hM.x hM.b dX3_takesDripping_6 (by decide) (fun c1 => ?_) (fun c1 => ?_)
  · rw [if_pos c1] at hF
    refine lv_aload_n hM.x hM.b dX3_takesDripping_11 rfl (lv_at hl 0 rfl) ?_
    refine lv_dup hM.x hM.b dX3_takesDripping_12 rfl ?_
    refine k_get3 4 hM hw hk (by decide) u_fl_X3_27 dX3_takesDripping_13 ?_
    refine lv_iconst (v := 1) hM.x hM.b dX3_takesDripping_16 (by decide) ?_
    refine lv_iadd hM.x hM.b dX3_takesDripping_17 ?_
    refine k_put3 4 hM hw hk (by decide) u_fl_X3_27 dX3_takesDripping_18 (fun H locs hw => ?_)
    obtain ⟨κ1, eκ1⟩ : ∃ z : Kp, up2 κ (k) 4 (((κ (k) 4) + (1))) = z := ⟨_, rfl⟩
    rw [eκ1] at hw
    rw [eκ1] at hF
    try dsimp only at hF
    refine lv_iconst (v := 1) hM.x hM.b dX3_takesDripping_21 (by decide) ?_
    exact k_zret (b := true) hM hr hw (Nat.le_of_ble_eq_true rfl) (Nat.le_of_ble_eq_true rfl) hF dX3_takesDripping_22
  · rw [if_neg c1] at hF
    refine lv_iconst (v := 0) hM.x hM.b dX3_takesDripping_9 (by decide) ?_
    exact k_zret (b := false) hM hr hw (Nat.le_of_ble_eq_true rfl) (Nat.le_of_ble_eq_true rfl) hF dX3_takesDripping_10
theorem q_X2_nextSide : hdV yX2_nextSide RX2 1 := ⟨rfl, by decide +kernel, by decide +kernel, by decide +kernel⟩
def f_X2_nextSide (a : Int32) : Int32 := if (a) < (3) then (((a) + (1))) else (0)
set_option maxRecDepth 100000 in
set_option maxHeartbeats 4000000 in
theorem m_X2_nextSide (l : Launch) (g : Gt) (κ : Kp) (sz : Nat) (a : Int32) : Met l yX2_nextSide (.code yX2_nextSide cX2_nextSide 1 (some .int) :: uW) { frames := 0, cells := 0, slots := 0, locals := 0 } (PRE g κ sz [.int (a)]) (va_Qi (fun r κ' => r = f_X2_nextSide a ∧ κ' = κ) (Wp g) (fr g sz)) 0 0 (fr g sz) := by
  refine k_enter (by decide +kernel) (Nat.le_of_ble_eq_true rfl) ?_
  intro p e s m below meth c ls hM hr hl hw hsz
  subst hsz
  have hl : lv_has ls 1 [(0, .int (a))] := hl
  have hF := f_X2_nextSide.eq_1 a
  refine lv_iload_n hM.x hM.b dX2_nextSide_0 rfl (lv_at hl 0 rfl) ?_
  refine lv_iconst (v := 3) hM.x hM.b dX2_nextSide_1 (by decide) ?_
  refine lv_icmp_lt (tgt := 9) hM.x hM.b dX2_nextSide_2 (by decide) (fun c1 => ?_) (fun c1 => ?_)
  · rw [if_pos c1] at hF
    refine lv_iload_n hM.x hM.b dX2_nextSide_9 rfl (lv_at hl 0 rfl) ?_
    refine lv_iconst (v := 1) hM.x hM.b dX2_nextSide_10 (by decide) ?_
    refine lv_iadd hM.x hM.b dX2_nextSide_11 ?_
    exact k_iret hM hr hw (Nat.le_of_ble_eq_true rfl) (Nat.le_of_ble_eq_true rfl) ⟨hF.symm, rfl⟩ dX2_nextSide_12
  · rw [if_neg c1] at hF
    refine lv_iconst (v := 0) hM.x hM.b dX2_nextSide_5 (by decide) ?_
    refine lv_goto (tgt := 12) hM.x hM.b dX2_nextSide_6 (by decide) ?_
    exact k_iret hM hr hw (Nat.le_of_ble_eq_true rfl) (Nat.le_of_ble_eq_true rfl) ⟨hF.symm, rfl⟩ dX2_nextSide_12
theorem q_X2_sideBefore : hdV yX2_sideBefore RX2 1 := ⟨rfl, by decide +kernel, by decide +kernel, by decide +kernel⟩
def f_X2_sideBefore (a : Int32) : Int32 := if 0 < (a) then (((a) - (1))) else (3)
set_option maxRecDepth 100000 in
set_option maxHeartbeats 4000000 in
theorem m_X2_sideBefore (l : Launch) (g : Gt) (κ : Kp) (sz : Nat) (a : Int32) : Met l yX2_sideBefore (.code yX2_sideBefore cX2_sideBefore 1 (some .int) :: uW) { frames := 0, cells := 0, slots := 0, locals := 0 } (PRE g κ sz [.int (a)]) (va_Qi (fun r κ' => r = f_X2_sideBefore a ∧ κ' = κ) (Wp g) (fr g sz)) 0 0 (fr g sz) := by
  refine k_enter (by decide +kernel) (Nat.le_of_ble_eq_true rfl) ?_
  intro p e s m below meth c ls hM hr hl hw hsz
  subst hsz
  have hl : lv_has ls 1 [(0, .int (a))] := hl
  have hF := f_X2_sideBefore.eq_1 a
  refine lv_iload_n hM.x hM.b dX2_sideBefore_0 rfl (lv_at hl 0 rfl) ?_
  refine lv_if_gt (tgt := 8) hM.x hM.b dX2_sideBefore_1 (by decide) (fun c1 => ?_) (fun c1 => ?_)
  · rw [if_pos c1] at hF
    refine lv_iload_n hM.x hM.b dX2_sideBefore_8 rfl (lv_at hl 0 rfl) ?_
    refine lv_iconst (v := 1) hM.x hM.b dX2_sideBefore_9 (by decide) ?_
    refine lv_isub hM.x hM.b dX2_sideBefore_10 ?_
    exact k_iret hM hr hw (Nat.le_of_ble_eq_true rfl) (Nat.le_of_ble_eq_true rfl) ⟨hF.symm, rfl⟩ dX2_sideBefore_11
  · rw [if_neg c1] at hF
    refine lv_iconst (v := 3) hM.x hM.b dX2_sideBefore_4 (by decide) ?_
    refine lv_goto (tgt := 11) hM.x hM.b dX2_sideBefore_5 (by decide) ?_
    exact k_iret hM hr hw (Nat.le_of_ble_eq_true rfl) (Nat.le_of_ble_eq_true rfl) ⟨hF.symm, rfl⟩ dX2_sideBefore_11
theorem q_X2_getBrowner : hdV yX2_getBrowner RX2 2 := ⟨rfl, by decide +kernel, by decide +kernel, by decide +kernel⟩
def f_X2_getBrowner (κ : Kp) (k : Nat) (a : Int32) (b : Int32) : Kp := if (a) < 0 then (κ) else (if (4) ≤ (a) then (κ) else (if (((κ (k + 1) (a).toNatClampNeg) + (b))) ≤ (99) then ((fun κ1 : Kp => κ1) (up2 κ (k + 1) ((a).toNatClampNeg) (((κ (k + 1) (a).toNatClampNeg) + (b))))) else ((fun κ2 : Kp => κ2) (up2 κ (k + 1) ((a).toNatClampNeg) (99)))))
set_option maxRecDepth 100000 in
set_option maxHeartbeats 4000000 in
theorem m_X2_getBrowner (l : Launch) (g : Gt) (κ : Kp) (sz : Nat) (k : Nat) (a : Int32) (b : Int32) (hk : kd k = 2) : Met l yX2_getBrowner (.code yX2_getBrowner cX2_getBrowner 4 none :: uW) { frames := 0, cells := 0, slots := 0, locals := 0 } (PRE g κ sz [.ref (g.2.2 (k)), .int (a), .int (b)]) (va_Qv (fun κ' => κ' = f_X2_getBrowner κ k a b) (Wp g) (fr g sz)) 0 0 (fr g sz) := by
  refine k_enter (by decide +kernel) (Nat.le_of_ble_eq_true rfl) ?_
  intro p e s m below meth c ls hM hr hl hw hsz
  subst hsz
  have hl : lv_has ls 4 [(0, .ref (g.2.2 (k))), (1, .int (a)), (2, .int (b))] := hl
  have hF := f_X2_getBrowner.eq_1 κ k a b
  refine lv_iload_n hM.x hM.b dX2_getBrowner_0 rfl (lv_at hl 1 rfl) ?_
  refine lv_if_lt (tgt := 40) hM.x hM.b dX2_getBrowner_1 (by decide) (fun c1 => ?_) (fun c1 => ?_)
  · rw [if_pos c1] at hF
    exact k_vret hM hr hw (Nat.le_of_ble_eq_true rfl) (Nat.le_of_ble_eq_true rfl) hF.symm dX2_getBrowner_40
  · rw [if_neg c1] at hF
    refine lv_iload_n hM.x hM.b dX2_getBrowner_4 rfl (lv_at hl 1 rfl) ?_
    refine lv_aload_n hM.x hM.b dX2_getBrowner_5 rfl (lv_at hl 0 rfl) ?_
    refine k_get2r hM hw hk u_fl_X2_9 dX2_getBrowner_6 ?_
    refine k_alen (v := 4) hM hw (kd_lt (kd2_6 hk) (by decide)) 0 (sh6 (kd2_6 hk)) rfl rfl dX2_getBrowner_9 ?_
    refine lv_icmp_ge (tgt := 40) hM.x hM.b dX2_getBrowner_10 (by decide) (fun c2 => ?_) (fun c2 => ?_)
    · rw [if_pos c2] at hF
      exact k_vret hM hr hw (Nat.le_of_ble_eq_true rfl) (Nat.le_of_ble_eq_true rfl) hF.symm dX2_getBrowner_40
    · rw [if_neg c2] at hF
      refine lv_aload_n hM.x hM.b dX2_getBrowner_13 rfl (lv_at hl 0 rfl) ?_
      refine k_get2r hM hw hk u_fl_X2_9 dX2_getBrowner_14 ?_
      refine lv_iload_n hM.x hM.b dX2_getBrowner_17 rfl (lv_at hl 1 rfl) ?_
      refine k_iald (n := 4) hM hw (kd_lt (kd2_6 hk) (by decide)) (sh6 (kd2_6 hk)) (vpin1 (M := 4) (n := 4) rfl c1 c2) dX2_getBrowner_18 ?_
      refine lv_iload_n hM.x hM.b dX2_getBrowner_19 rfl (lv_at hl 2 rfl) ?_
      refine lv_iadd hM.x hM.b dX2_getBrowner_20 ?_
      refine lv_istore_n (lv' := [(3, .int (((κ (k + 1) (a).toNatClampNeg) + (b)))), (0, .ref (g.2.2 (k))), (1, .int (a)), (2, .int (b))]) hM.x hM.b dX2_getBrowner_21 rfl hl (by decide) rfl (fun ls hl => ?_)
      refine lv_aload_n hM.x hM.b dX2_getBrowner_22 rfl (lv_at hl 1 rfl) ?_
      refine k_get2r hM hw hk u_fl_X2_9 dX2_getBrowner_23 ?_
      refine lv_iload_n hM.x hM.b dX2_getBrowner_26 rfl (lv_at hl 2 rfl) ?_
      refine lv_iload_n hM.x hM.b dX2_getBrowner_27 rfl (lv_at hl 0 rfl) ?_
      refine lv_bipush (v := 99) hM.x hM.b dX2_getBrowner_28 (by decide) ?_
      refine lv_icmp_le (tgt := 38) hM.x hM.b dX2_getBrowner_30 (by decide) (fun c3 => ?_) (fun c3 => ?_)
      · rw [if_pos c3] at hF
        refine lv_iload_n hM.x hM.b dX2_getBrowner_38 rfl (lv_at hl 0 rfl) ?_
        refine k_iast (n := 4) hM hw (kd_lt (kd2_6 hk) (by decide)) (fun r => sh6 (kd2_6 hk)) (vpin1 (M := 4) (n := 4) rfl c1 c2) dX2_getBrowner_39 (fun H locs hw => ?_)
        obtain ⟨κ1, eκ1⟩ : ∃ z : Kp, up2 κ (k + 1) ((a).toNatClampNeg) (((κ (k + 1) (a).toNatClampNeg) + (b))) = z := ⟨_, rfl⟩
        rw [eκ1] at hw
        rw [eκ1] at hF
        try dsimp only at hF
        exact k_vret hM hr hw (Nat.le_of_ble_eq_true rfl) (Nat.le_of_ble_eq_true rfl) hF.symm dX2_getBrowner_40
      · rw [if_neg c3] at hF
        refine lv_bipush (v := 99) hM.x hM.b dX2_getBrowner_33 (by decide) ?_
        refine lv_goto (tgt := 39) hM.x hM.b dX2_getBrowner_35 (by decide) ?_
        refine k_iast (n := 4) hM hw (kd_lt (kd2_6 hk) (by decide)) (fun r => sh6 (kd2_6 hk)) (vpin1 (M := 4) (n := 4) rfl c1 c2) dX2_getBrowner_39 (fun H locs hw => ?_)
        obtain ⟨κ2, eκ2⟩ : ∃ z : Kp, up2 κ (k + 1) ((a).toNatClampNeg) (99) = z := ⟨_, rfl⟩
        rw [eκ2] at hw
        rw [eκ2] at hF
        try dsimp only at hF
        exact k_vret hM hr hw (Nat.le_of_ble_eq_true rfl) (Nat.le_of_ble_eq_true rfl) hF.symm dX2_getBrowner_40
theorem q_X2_getGlow : hdV yX2_getGlow RX2 1 := ⟨rfl, by decide +kernel, by decide +kernel, by decide +kernel⟩
def f_X2_getGlow (κ : Kp) (k : Nat) (a : Int32) : Int32 × Kp := if (κ (k) 5) ≤ 0 then ((fun κ1 : Kp => (fun κ2 : Kp => (fun κ3 : Kp => (a, κ3)) (f_X2_getBrowner κ2 (k) (f_X2_sideBefore (κ2 (k) 3)) (((a) / (3))))) (f_X2_getBrowner κ1 (k) (f_X2_nextSide (κ1 (k) 3)) (((a) / (3))))) (f_X2_getBrowner κ (k) (κ (k) 3) (a))) else ((fun κ4 : Kp => (fun κ5 : Kp => (fun κ6 : Kp => (fun κ7 : Kp => ((if (0) < (((a) - (1))) then (((a) - (1))) else (0)), κ7)) (f_X2_getBrowner κ6 (k) (f_X2_sideBefore (κ6 (k) 3)) ((((if (0) < (((a) - (1))) then (((a) - (1))) else (0))) / (3))))) (f_X2_getBrowner κ5 (k) (f_X2_nextSide (κ5 (k) 3)) ((((if (0) < (((a) - (1))) then (((a) - (1))) else (0))) / (3))))) (f_X2_getBrowner κ4 (k) (κ4 (k) 3) ((if (0) < (((a) - (1))) then (((a) - (1))) else (0))))) (up2 κ (k) 5 (((κ (k) 5) - (1)))))
set_option maxRecDepth 100000 in
set_option maxHeartbeats 4000000 in
theorem m_X2_getGlow (l : Launch) (g : Gt) (κ : Kp) (sz : Nat) (k : Nat) (a : Int32) (hk : kd k = 2) : Met l yX2_getGlow (.code yX2_getGlow cX2_getGlow 3 (some .int) :: uW) { frames := 1, cells := 0, slots := 0, locals := 30 } (PRE g κ sz [.ref (g.2.2 (k)), .int (a)]) (va_Qi (fun r κ' => f_X2_getGlow κ k a = (r, κ')) (Wp g) (fr g sz)) 0 0 (fr g sz) := by
  refine k_enter (by decide +kernel) (Nat.le_of_ble_eq_true rfl) ?_
  intro p e s m below meth c ls hM hr hl hw hsz
  subst hsz
  have hl : lv_has ls 3 [(0, .ref (g.2.2 (k))), (1, .int (a))] := hl
  have hF := f_X2_getGlow.eq_1 κ k a
  refine lv_iload_n hM.x hM.b dX2_getGlow_0 rfl (lv_at hl 1 rfl) ?_
  refine lv_istore_n (lv' := [(2, .int (a)), (0, .ref (g.2.2 (k))), (1, .int (a))]) hM.x hM.b dX2_getGlow_1 rfl hl (by decide) rfl (fun ls hl => ?_)
  refine lv_aload_n hM.x hM.b dX2_getGlow_2 rfl (lv_at hl 1 rfl) ?_
  refine k_get2 5 hM hw hk (by decide) u_fl_X2_28 dX2_getGlow_3 ?_
  refine lv_if_le (tgt := 27) hM.x hM.b dX2_getGlow_6 (by decide) (fun c1 => ?_) (fun c1 => ?_)
  · rw [if_pos c1] at hF
    refine lv_aload_n hM.x hM.b dX2_getGlow_27 rfl (lv_at hl 1 rfl) ?_
    refine lv_aload_n hM.x hM.b dX2_getGlow_28 rfl (lv_at hl 1 rfl) ?_
    refine k_get2 3 hM hw hk (by decide) u_fl_X2_22 dX2_getGlow_29 ?_
    refine lv_iload_n hM.x hM.b dX2_getGlow_32 rfl (lv_at hl 0 rfl) ?_
    refine k_cvp hw (k_runV [.int (κ (k) 3), .int (a)] [] hM hw (m_X2_getBrowner l g κ _ (k) (κ (k) 3) (a) (hk)) (kd_lt hk (by decide)) (sh2 hk) rfl (k_gV u_ml_X2_37 u_im_X2_getBrowner u_se_X2_getBrowner u_ini_X2 u_co_X2_getBrowner) (q_X2_getBrowner) rfl rfl rfl ⟨Nat.le_of_ble_eq_true rfl, Nat.le_of_ble_eq_true rfl⟩ hl.1 rfl (Nat.le_of_ble_eq_true rfl) dX2_getGlow_33 ⟨Nat.le_of_ble_eq_true rfl, Nat.le_of_ble_eq_true rfl⟩) (fun κ1 H locs hp hw => ?_)
    rw [hp] at hF
    try dsimp only at hF
    refine lv_aload_n hM.x hM.b dX2_getGlow_36 rfl (lv_at hl 1 rfl) ?_
    refine lv_aload_n hM.x hM.b dX2_getGlow_37 rfl (lv_at hl 1 rfl) ?_
    refine k_get2 3 hM hw hk (by decide) u_fl_X2_22 dX2_getGlow_38 ?_
    refine k_cip hw (k_runS [.int (κ1 (k) 3)] [.ref (g.2.2 (k))] hM hw (m_X2_nextSide l g κ1 _ (κ1 (k) 3)) (k_gS u_ml_X2_41 u_st_X2_nextSide u_ini_X2 u_co_X2_nextSide) (q_X2_nextSide) rfl rfl rfl ⟨Nat.le_of_ble_eq_true rfl, Nat.le_of_ble_eq_true rfl⟩ hl.1 rfl (Nat.le_of_ble_eq_true rfl) dX2_getGlow_41 ⟨Nat.le_of_ble_eq_true rfl, Nat.le_of_ble_eq_true rfl⟩) (fun H locs hw => ?_)
    refine lv_iload_n hM.x hM.b dX2_getGlow_44 rfl (lv_at hl 0 rfl) ?_
    refine lv_iconst (v := 3) hM.x hM.b dX2_getGlow_45 (by decide) ?_
    refine lv_idiv hM.x hM.b dX2_getGlow_46 (by decide) ?_
    refine k_cvp hw (k_runV [.int (f_X2_nextSide (κ1 (k) 3)), .int (((a) / (3)))] [] hM hw (m_X2_getBrowner l g κ1 _ (k) (f_X2_nextSide (κ1 (k) 3)) (((a) / (3))) (hk)) (kd_lt hk (by decide)) (sh2 hk) rfl (k_gV u_ml_X2_37 u_im_X2_getBrowner u_se_X2_getBrowner u_ini_X2 u_co_X2_getBrowner) (q_X2_getBrowner) rfl rfl rfl ⟨Nat.le_of_ble_eq_true rfl, Nat.le_of_ble_eq_true rfl⟩ hl.1 rfl (Nat.le_of_ble_eq_true rfl) dX2_getGlow_47 ⟨Nat.le_of_ble_eq_true rfl, Nat.le_of_ble_eq_true rfl⟩) (fun κ2 H locs hp hw => ?_)
    rw [hp] at hF
    try dsimp only at hF
    refine lv_aload_n hM.x hM.b dX2_getGlow_50 rfl (lv_at hl 1 rfl) ?_
    refine lv_aload_n hM.x hM.b dX2_getGlow_51 rfl (lv_at hl 1 rfl) ?_
    refine k_get2 3 hM hw hk (by decide) u_fl_X2_22 dX2_getGlow_52 ?_
    refine k_cip hw (k_runS [.int (κ2 (k) 3)] [.ref (g.2.2 (k))] hM hw (m_X2_sideBefore l g κ2 _ (κ2 (k) 3)) (k_gS u_ml_X2_45 u_st_X2_sideBefore u_ini_X2 u_co_X2_sideBefore) (q_X2_sideBefore) rfl rfl rfl ⟨Nat.le_of_ble_eq_true rfl, Nat.le_of_ble_eq_true rfl⟩ hl.1 rfl (Nat.le_of_ble_eq_true rfl) dX2_getGlow_55 ⟨Nat.le_of_ble_eq_true rfl, Nat.le_of_ble_eq_true rfl⟩) (fun H locs hw => ?_)
    refine lv_iload_n hM.x hM.b dX2_getGlow_58 rfl (lv_at hl 0 rfl) ?_
    refine lv_iconst (v := 3) hM.x hM.b dX2_getGlow_59 (by decide) ?_
    refine lv_idiv hM.x hM.b dX2_getGlow_60 (by decide) ?_
    refine k_cvp hw (k_runV [.int (f_X2_sideBefore (κ2 (k) 3)), .int (((a) / (3)))] [] hM hw (m_X2_getBrowner l g κ2 _ (k) (f_X2_sideBefore (κ2 (k) 3)) (((a) / (3))) (hk)) (kd_lt hk (by decide)) (sh2 hk) rfl (k_gV u_ml_X2_37 u_im_X2_getBrowner u_se_X2_getBrowner u_ini_X2 u_co_X2_getBrowner) (q_X2_getBrowner) rfl rfl rfl ⟨Nat.le_of_ble_eq_true rfl, Nat.le_of_ble_eq_true rfl⟩ hl.1 rfl (Nat.le_of_ble_eq_true rfl) dX2_getGlow_61 ⟨Nat.le_of_ble_eq_true rfl, Nat.le_of_ble_eq_true rfl⟩) (fun κ3 H locs hp hw => ?_)
    rw [hp] at hF
    try dsimp only at hF
    refine lv_iload_n hM.x hM.b dX2_getGlow_64 rfl (lv_at hl 0 rfl) ?_
    exact k_iret hM hr hw (Nat.le_of_ble_eq_true rfl) (Nat.le_of_ble_eq_true rfl) hF dX2_getGlow_65
  · rw [if_neg c1] at hF
    refine lv_iconst (v := 0) hM.x hM.b dX2_getGlow_9 (by decide) ?_
    refine lv_iload_n hM.x hM.b dX2_getGlow_10 rfl (lv_at hl 2 rfl) ?_
    refine lv_iconst (v := 1) hM.x hM.b dX2_getGlow_11 (by decide) ?_
    refine lv_isub hM.x hM.b dX2_getGlow_12 ?_
    refine va_mmax hM.x hM.b (hM.ml.trans hl.1.symm) hM.ow (hM.ts _ u_ml_X2_31) (hM.ts _ u_st_JM_max) (hM.ts _ u_ini_JM) (hM.ts _ u_co_JM_max) (Nat.le_of_ble_eq_true rfl) (Nat.le_of_ble_eq_true rfl) (Nat.le_of_ble_eq_true rfl) (Nat.le_of_ble_eq_true rfl) dX2_getGlow_13 ?_
    refine lv_istore_n (lv' := [(2, .int ((if (0) < (((a) - (1))) then (((a) - (1))) else (0)))), (0, .ref (g.2.2 (k))), (1, .int (a))]) hM.x hM.b dX2_getGlow_16 rfl hl (by decide) rfl (fun ls hl => ?_)
    refine lv_aload_n hM.x hM.b dX2_getGlow_17 rfl (lv_at hl 1 rfl) ?_
    refine lv_dup hM.x hM.b dX2_getGlow_18 rfl ?_
    refine k_get2 5 hM hw hk (by decide) u_fl_X2_28 dX2_getGlow_19 ?_
    refine lv_iconst (v := 1) hM.x hM.b dX2_getGlow_22 (by decide) ?_
    refine lv_isub hM.x hM.b dX2_getGlow_23 ?_
    refine k_put2 5 hM hw hk (by decide) u_fl_X2_28 dX2_getGlow_24 (fun H locs hw => ?_)
    obtain ⟨κ4, eκ4⟩ : ∃ z : Kp, up2 κ (k) 5 (((κ (k) 5) - (1))) = z := ⟨_, rfl⟩
    rw [eκ4] at hw
    rw [eκ4] at hF
    try dsimp only at hF
    refine lv_aload_n hM.x hM.b dX2_getGlow_27 rfl (lv_at hl 1 rfl) ?_
    refine lv_aload_n hM.x hM.b dX2_getGlow_28 rfl (lv_at hl 1 rfl) ?_
    refine k_get2 3 hM hw hk (by decide) u_fl_X2_22 dX2_getGlow_29 ?_
    refine lv_iload_n hM.x hM.b dX2_getGlow_32 rfl (lv_at hl 0 rfl) ?_
    refine k_cvp hw (k_runV [.int (κ4 (k) 3), .int ((if (0) < (((a) - (1))) then (((a) - (1))) else (0)))] [] hM hw (m_X2_getBrowner l g κ4 _ (k) (κ4 (k) 3) ((if (0) < (((a) - (1))) then (((a) - (1))) else (0))) (hk)) (kd_lt hk (by decide)) (sh2 hk) rfl (k_gV u_ml_X2_37 u_im_X2_getBrowner u_se_X2_getBrowner u_ini_X2 u_co_X2_getBrowner) (q_X2_getBrowner) rfl rfl rfl ⟨Nat.le_of_ble_eq_true rfl, Nat.le_of_ble_eq_true rfl⟩ hl.1 rfl (Nat.le_of_ble_eq_true rfl) dX2_getGlow_33 ⟨Nat.le_of_ble_eq_true rfl, Nat.le_of_ble_eq_true rfl⟩) (fun κ5 H locs hp hw => ?_)
    rw [hp] at hF
    try dsimp only at hF
    refine lv_aload_n hM.x hM.b dX2_getGlow_36 rfl (lv_at hl 1 rfl) ?_
    refine lv_aload_n hM.x hM.b dX2_getGlow_37 rfl (lv_at hl 1 rfl) ?_
    refine k_get2 3 hM hw hk (by decide) u_fl_X2_22 dX2_getGlow_38 ?_
    refine k_cip hw (k_runS [.int (κ5 (k) 3)] [.ref (g.2.2 (k))] hM hw (m_X2_nextSide l g κ5 _ (κ5 (k) 3)) (k_gS u_ml_X2_41 u_st_X2_nextSide u_ini_X2 u_co_X2_nextSide) (q_X2_nextSide) rfl rfl rfl ⟨Nat.le_of_ble_eq_true rfl, Nat.le_of_ble_eq_true rfl⟩ hl.1 rfl (Nat.le_of_ble_eq_true rfl) dX2_getGlow_41 ⟨Nat.le_of_ble_eq_true rfl, Nat.le_of_ble_eq_true rfl⟩) (fun H locs hw => ?_)
    refine lv_iload_n hM.x hM.b dX2_getGlow_44 rfl (lv_at hl 0 rfl) ?_
    refine lv_iconst (v := 3) hM.x hM.b dX2_getGlow_45 (by decide) ?_
    refine lv_idiv hM.x hM.b dX2_getGlow_46 (by decide) ?_
    refine k_cvp hw (k_runV [.int (f_X2_nextSide (κ5 (k) 3)), .int ((((if (0) < (((a) - (1))) then (((a) - (1))) else (0))) / (3)))] [] hM hw (m_X2_getBrowner l g κ5 _ (k) (f_X2_nextSide (κ5 (k) 3)) ((((if (0) < (((a) - (1))) then (((a) - (1))) else (0))) / (3))) (hk)) (kd_lt hk (by decide)) (sh2 hk) rfl (k_gV u_ml_X2_37 u_im_X2_getBrowner u_se_X2_getBrowner u_ini_X2 u_co_X2_getBrowner) (q_X2_getBrowner) rfl rfl rfl ⟨Nat.le_of_ble_eq_true rfl, Nat.le_of_ble_eq_true rfl⟩ hl.1 rfl (Nat.le_of_ble_eq_true rfl) dX2_getGlow_47 ⟨Nat.le_of_ble_eq_true rfl, Nat.le_of_ble_eq_true rfl⟩) (fun κ6 H locs hp hw => ?_)
    rw [hp] at hF
    try dsimp only at hF
    refine lv_aload_n hM.x hM.b dX2_getGlow_50 rfl (lv_at hl 1 rfl) ?_
    refine lv_aload_n hM.x hM.b dX2_getGlow_51 rfl (lv_at hl 1 rfl) ?_
    refine k_get2 3 hM hw hk (by decide) u_fl_X2_22 dX2_getGlow_52 ?_
    refine k_cip hw (k_runS [.int (κ6 (k) 3)] [.ref (g.2.2 (k))] hM hw (m_X2_sideBefore l g κ6 _ (κ6 (k) 3)) (k_gS u_ml_X2_45 u_st_X2_sideBefore u_ini_X2 u_co_X2_sideBefore) (q_X2_sideBefore) rfl rfl rfl ⟨Nat.le_of_ble_eq_true rfl, Nat.le_of_ble_eq_true rfl⟩ hl.1 rfl (Nat.le_of_ble_eq_true rfl) dX2_getGlow_55 ⟨Nat.le_of_ble_eq_true rfl, Nat.le_of_ble_eq_true rfl⟩) (fun H locs hw => ?_)
    refine lv_iload_n hM.x hM.b dX2_getGlow_58 rfl (lv_at hl 0 rfl) ?_
    refine lv_iconst (v := 3) hM.x hM.b dX2_getGlow_59 (by decide) ?_
    refine lv_idiv hM.x hM.b dX2_getGlow_60 (by decide) ?_
    refine k_cvp hw (k_runV [.int (f_X2_sideBefore (κ6 (k) 3)), .int ((((if (0) < (((a) - (1))) then (((a) - (1))) else (0))) / (3)))] [] hM hw (m_X2_getBrowner l g κ6 _ (k) (f_X2_sideBefore (κ6 (k) 3)) ((((if (0) < (((a) - (1))) then (((a) - (1))) else (0))) / (3))) (hk)) (kd_lt hk (by decide)) (sh2 hk) rfl (k_gV u_ml_X2_37 u_im_X2_getBrowner u_se_X2_getBrowner u_ini_X2 u_co_X2_getBrowner) (q_X2_getBrowner) rfl rfl rfl ⟨Nat.le_of_ble_eq_true rfl, Nat.le_of_ble_eq_true rfl⟩ hl.1 rfl (Nat.le_of_ble_eq_true rfl) dX2_getGlow_61 ⟨Nat.le_of_ble_eq_true rfl, Nat.le_of_ble_eq_true rfl⟩) (fun κ7 H locs hp hw => ?_)
    rw [hp] at hF
    try dsimp only at hF
    refine lv_iload_n hM.x hM.b dX2_getGlow_64 rfl (lv_at hl 0 rfl) ?_
    exact k_iret hM hr hw (Nat.le_of_ble_eq_true rfl) (Nat.le_of_ble_eq_true rfl) hF dX2_getGlow_65
theorem q_X2_drips : hdV yX2_drips RX2 1 := ⟨rfl, by decide +kernel, by decide +kernel, by decide +kernel⟩
def f_X2_drips (κ : Kp) (k : Nat) (a : Int32) : Int32 × Kp := if (a) < (2) then ((bi false, κ)) else (if 0 < (κ (k) 4) then ((fun κ1 : Kp => (bi true, κ1)) (up2 κ (k) 4 (((κ (k) 4) - (1))))) else ((bi false, κ)))
set_option maxRecDepth 100000 in
set_option maxHeartbeats 4000000 in
theorem m_X2_drips (l : Launch) (g : Gt) (κ : Kp) (sz : Nat) (k : Nat) (a : Int32) (hk : kd k = 2) : Met l yX2_drips (.code yX2_drips cX2_drips 2 (some .boolean) :: uW) { frames := 0, cells := 0, slots := 0, locals := 0 } (PRE g κ sz [.ref (g.2.2 (k)), .int (a)]) (va_Qi (fun r κ' => f_X2_drips κ k a = (r, κ')) (Wp g) (fr g sz)) 0 0 (fr g sz) := by
  refine k_enter (by decide +kernel) (Nat.le_of_ble_eq_true rfl) ?_
  intro p e s m below meth c ls hM hr hl hw hsz
  subst hsz
  have hl : lv_has ls 2 [(0, .ref (g.2.2 (k))), (1, .int (a))] := hl
  have hF := f_X2_drips.eq_1 κ k a
  refine lv_iload_n hM.x hM.b dX2_drips_0 rfl (lv_at hl 1 rfl) ?_
  refine lv_iconst (v := 2) hM.x hM.b dX2_drips_1 (by decide) ?_
  refine lv_icmp_lt (tgt := 12) hM.x hM.b dX2_drips_2 (by decide) (fun c1 => ?_) (fun c1 => ?_)
  · rw [if_pos c1] at hF
    refine lv_iconst (v := 0) hM.x hM.b dX2_drips_12 (by decide) ?_
    exact k_zret (b := false) hM hr hw (Nat.le_of_ble_eq_true rfl) (Nat.le_of_ble_eq_true rfl) hF dX2_drips_13
  · rw [if_neg c1] at hF
    refine lv_aload_n hM.x hM.b dX2_drips_5 rfl (lv_at hl 0 rfl) ?_
    refine k_get2 4 hM hw hk (by decide) u_fl_X2_25 dX2_drips_6 ?_
    refine lv_if_gt (tgt := 14) hM.x hM.b dX2_drips_9 (by decide) (fun c2 => ?_) (fun c2 => ?_)
    · rw [if_pos c2] at hF
      refine lv_aload_n hM.x hM.b dX2_drips_14 rfl (lv_at hl 0 rfl) ?_
      refine lv_dup hM.x hM.b dX2_drips_15 rfl ?_
      refine k_get2 4 hM hw hk (by decide) u_fl_X2_25 dX2_drips_16 ?_
      refine lv_iconst (v := 1) hM.x hM.b dX2_drips_19 (by decide) ?_
      refine lv_isub hM.x hM.b dX2_drips_20 ?_
      refine k_put2 4 hM hw hk (by decide) u_fl_X2_25 dX2_drips_21 (fun H locs hw => ?_)
      obtain ⟨κ1, eκ1⟩ : ∃ z : Kp, up2 κ (k) 4 (((κ (k) 4) - (1))) = z := ⟨_, rfl⟩
      rw [eκ1] at hw
      rw [eκ1] at hF
      try dsimp only at hF
      refine lv_iconst (v := 1) hM.x hM.b dX2_drips_24 (by decide) ?_
      exact k_zret (b := true) hM hr hw (Nat.le_of_ble_eq_true rfl) (Nat.le_of_ble_eq_true rfl) hF dX2_drips_25
    · rw [if_neg c2] at hF
      refine lv_iconst (v := 0) hM.x hM.b dX2_drips_12 (by decide) ?_
      exact k_zret (b := false) hM hr hw (Nat.le_of_ble_eq_true rfl) (Nat.le_of_ble_eq_true rfl) hF dX2_drips_13
theorem q_X2_turn : hdV yX2_turn RX2 0 := ⟨rfl, by decide +kernel, by decide +kernel, by decide +kernel⟩
def f_X2_turn (κ : Kp) (k : Nat) : Kp := (fun κ1 : Kp => κ1) (up2 κ (k) 3 (f_X2_nextSide (κ (k) 3)))
set_option maxRecDepth 100000 in
set_option maxHeartbeats 4000000 in
theorem m_X2_turn (l : Launch) (g : Gt) (κ : Kp) (sz : Nat) (k : Nat) (hk : kd k = 2) : Met l yX2_turn (.code yX2_turn cX2_turn 1 none :: uW) { frames := 1, cells := 0, slots := 0, locals := 30 } (PRE g κ sz [.ref (g.2.2 (k))]) (va_Qv (fun κ' => κ' = f_X2_turn κ k) (Wp g) (fr g sz)) 0 0 (fr g sz) := by
  refine k_enter (by decide +kernel) (Nat.le_of_ble_eq_true rfl) ?_
  intro p e s m below meth c ls hM hr hl hw hsz
  subst hsz
  have hl : lv_has ls 1 [(0, .ref (g.2.2 (k)))] := hl
  have hF := f_X2_turn.eq_1 κ k
  refine lv_aload_n hM.x hM.b dX2_turn_0 rfl (lv_at hl 0 rfl) ?_
  refine lv_aload_n hM.x hM.b dX2_turn_1 rfl (lv_at hl 0 rfl) ?_
  refine k_get2 3 hM hw hk (by decide) u_fl_X2_22 dX2_turn_2 ?_
  refine k_cip hw (k_runS [.int (κ (k) 3)] [.ref (g.2.2 (k))] hM hw (m_X2_nextSide l g κ _ (κ (k) 3)) (k_gS u_ml_X2_41 u_st_X2_nextSide u_ini_X2 u_co_X2_nextSide) (q_X2_nextSide) rfl rfl rfl ⟨Nat.le_of_ble_eq_true rfl, Nat.le_of_ble_eq_true rfl⟩ hl.1 rfl (Nat.le_of_ble_eq_true rfl) dX2_turn_5 ⟨Nat.le_of_ble_eq_true rfl, Nat.le_of_ble_eq_true rfl⟩) (fun H locs hw => ?_)
  refine k_put2 3 hM hw hk (by decide) u_fl_X2_22 dX2_turn_8 (fun H locs hw => ?_)
  obtain ⟨κ1, eκ1⟩ : ∃ z : Kp, up2 κ (k) 3 (f_X2_nextSide (κ (k) 3)) = z := ⟨_, rfl⟩
  rw [eκ1] at hw
  rw [eκ1] at hF
  try dsimp only at hF
  exact k_vret hM hr hw (Nat.le_of_ble_eq_true rfl) (Nat.le_of_ble_eq_true rfl) hF.symm dX2_turn_11
end
section
theorem q_X1_fireAt : hdV yX1_fireAt RX1 1 := ⟨rfl, by decide +kernel, by decide +kernel, by decide +kernel⟩
def f_X1_fireAt (κ : Kp) (k : Nat) (a : Int32) : Option Nat := if (a) < 0 then (none) else (if (κ (k) 3) ≤ (a) then (none) else (if (3) ≤ (a) then (none) else (some (k + 4 + (a).toNatClampNeg))))
set_option maxRecDepth 100000 in
set_option maxHeartbeats 4000000 in
theorem m_X1_fireAt (l : Launch) (g : Gt) (κ : Kp) (sz : Nat) (k : Nat) (a : Int32) (hk : kd k = 1) : Met l yX1_fireAt (.code yX1_fireAt cX1_fireAt 2 (some (.object "KitchenSpits$Fire")) :: uW) { frames := 0, cells := 0, slots := 0, locals := 0 } (PRE g κ sz [.ref (g.2.2 (k)), .int (a)]) (va_Qe g.2.2 (fun r κ' => r = f_X1_fireAt κ k a ∧ κ' = κ) (Wp g) (fr g sz)) 0 0 (fr g sz) := by
  refine k_enter (by decide +kernel) (Nat.le_of_ble_eq_true rfl) ?_
  intro p e s m below meth c ls hM hr hl hw hsz
  subst hsz
  have hl : lv_has ls 2 [(0, .ref (g.2.2 (k))), (1, .int (a))] := hl
  have hF := f_X1_fireAt.eq_1 κ k a
  refine lv_iload_n hM.x hM.b dX1_fireAt_0 rfl (lv_at hl 1 rfl) ?_
  refine lv_if_lt (tgt := 30) hM.x hM.b dX1_fireAt_1 (by decide) (fun c1 => ?_) (fun c1 => ?_)
  · rw [if_pos c1] at hF
    refine lv_null hM.x hM.b dX1_fireAt_30 ?_
    exact k_eret (v := none) hM hr hw (Nat.le_of_ble_eq_true rfl) (Nat.le_of_ble_eq_true rfl) ⟨hF.symm, rfl⟩ dX1_fireAt_31
  · rw [if_neg c1] at hF
    refine lv_iload_n hM.x hM.b dX1_fireAt_4 rfl (lv_at hl 1 rfl) ?_
    refine lv_aload_n hM.x hM.b dX1_fireAt_5 rfl (lv_at hl 0 rfl) ?_
    refine k_get1 3 hM hw hk (by decide) u_fl_X1_46 dX1_fireAt_6 ?_
    refine lv_icmp_ge (tgt := 30) hM.x hM.b dX1_fireAt_9 (by decide) (fun c2 => ?_) (fun c2 => ?_)
    · rw [if_pos c2] at hF
      refine lv_null hM.x hM.b dX1_fireAt_30 ?_
      exact k_eret (v := none) hM hr hw (Nat.le_of_ble_eq_true rfl) (Nat.le_of_ble_eq_true rfl) ⟨hF.symm, rfl⟩ dX1_fireAt_31
    · rw [if_neg c2] at hF
      refine lv_iload_n hM.x hM.b dX1_fireAt_12 rfl (lv_at hl 1 rfl) ?_
      refine lv_aload_n hM.x hM.b dX1_fireAt_13 rfl (lv_at hl 0 rfl) ?_
      refine k_get1r 0 hM hw hk (by decide) u_fl_X1_11 dX1_fireAt_14 ?_
      refine k_alen (v := 3) hM hw (kd_lt (kd1_7 hk) (by decide)) 2 (sh7 (kd1_7 hk)) rfl rfl dX1_fireAt_17 ?_
      refine lv_icmp_ge (tgt := 30) hM.x hM.b dX1_fireAt_18 (by decide) (fun c3 => ?_) (fun c3 => ?_)
      · rw [if_pos c3] at hF
        refine lv_null hM.x hM.b dX1_fireAt_30 ?_
        exact k_eret (v := none) hM hr hw (Nat.le_of_ble_eq_true rfl) (Nat.le_of_ble_eq_true rfl) ⟨hF.symm, rfl⟩ dX1_fireAt_31
      · rw [if_neg c3] at hF
        refine lv_aload_n hM.x hM.b dX1_fireAt_21 rfl (lv_at hl 0 rfl) ?_
        refine k_get1r 0 hM hw hk (by decide) u_fl_X1_11 dX1_fireAt_22 ?_
        refine lv_iload_n hM.x hM.b dX1_fireAt_25 rfl (lv_at hl 1 rfl) ?_
        refine k_ald7 hM hw hk (vpin1 (M := 3) (n := 3) rfl c1 c3) dX1_fireAt_26 ?_
        refine lv_goto (tgt := 31) hM.x hM.b dX1_fireAt_27 (by decide) ?_
        exact k_eret (v := some (k + 4 + (a).toNatClampNeg)) hM hr hw (Nat.le_of_ble_eq_true rfl) (Nat.le_of_ble_eq_true rfl) ⟨hF.symm, rfl⟩ dX1_fireAt_31
theorem sm_X1_fireAt {κ : Kp} {k : Nat} {a : Int32} {p : Nat} (h : f_X1_fireAt κ k a = some p) : ¬ a < 0 ∧ ¬ κ k 3 ≤ a ∧ a.toNatClampNeg < 3 ∧ p = k + 4 + a.toNatClampNeg := by
  unfold f_X1_fireAt at h
  by_cases h1 : a < 0
  · rw [if_pos h1] at h; cases h
  · rw [if_neg h1] at h
    by_cases h2 : κ k 3 ≤ a
    · rw [if_pos h2] at h; cases h
    · rw [if_neg h2] at h
      by_cases h3 : (3 : Int32) ≤ a
      · rw [if_pos h3] at h; cases h
      · rw [if_neg h3] at h
        cases h
        exact ⟨h1, h2, vpin_lt (vpin1 (M := 3) (n := 3) rfl h1 h3), rfl⟩
theorem kdp_X1_fireAt {κ : Kp} {k : Nat} {a : Int32} {p : Nat} (hk : kd k = 1) (h : f_X1_fireAt κ k a = some p) : kd p = 0 := by
  obtain ⟨-, -, h3, rfl⟩ := sm_X1_fireAt h
  exact kd1_0 hk h3
theorem q_X1_spitAt : hdV yX1_spitAt RX1 1 := ⟨rfl, by decide +kernel, by decide +kernel, by decide +kernel⟩
def f_X1_spitAt (κ : Kp) (k : Nat) (a : Int32) : Option Nat := if (a) < 0 then (none) else (if (κ (k) 4) ≤ (a) then (none) else (if (6) ≤ (a) then (none) else (some (k + 7 + (a).toNatClampNeg))))
set_option maxRecDepth 100000 in
set_option maxHeartbeats 4000000 in
theorem m_X1_spitAt (l : Launch) (g : Gt) (κ : Kp) (sz : Nat) (k : Nat) (a : Int32) (hk : kd k = 1) : Met l yX1_spitAt (.code yX1_spitAt cX1_spitAt 2 (some (.object "KitchenSpits$Spit")) :: uW) { frames := 0, cells := 0, slots := 0, locals := 0 } (PRE g κ sz [.ref (g.2.2 (k)), .int (a)]) (va_Qe g.2.2 (fun r κ' => r = f_X1_spitAt κ k a ∧ κ' = κ) (Wp g) (fr g sz)) 0 0 (fr g sz) := by
  refine k_enter (by decide +kernel) (Nat.le_of_ble_eq_true rfl) ?_
  intro p e s m below meth c ls hM hr hl hw hsz
  subst hsz
  have hl : lv_has ls 2 [(0, .ref (g.2.2 (k))), (1, .int (a))] := hl
  have hF := f_X1_spitAt.eq_1 κ k a
  refine lv_iload_n hM.x hM.b dX1_spitAt_0 rfl (lv_at hl 1 rfl) ?_
  refine lv_if_lt (tgt := 30) hM.x hM.b dX1_spitAt_1 (by decide) (fun c1 => ?_) (fun c1 => ?_)
  · rw [if_pos c1] at hF
    refine lv_null hM.x hM.b dX1_spitAt_30 ?_
    exact k_eret (v := none) hM hr hw (Nat.le_of_ble_eq_true rfl) (Nat.le_of_ble_eq_true rfl) ⟨hF.symm, rfl⟩ dX1_spitAt_31
  · rw [if_neg c1] at hF
    refine lv_iload_n hM.x hM.b dX1_spitAt_4 rfl (lv_at hl 1 rfl) ?_
    refine lv_aload_n hM.x hM.b dX1_spitAt_5 rfl (lv_at hl 0 rfl) ?_
    refine k_get1 4 hM hw hk (by decide) u_fl_X1_49 dX1_spitAt_6 ?_
    refine lv_icmp_ge (tgt := 30) hM.x hM.b dX1_spitAt_9 (by decide) (fun c2 => ?_) (fun c2 => ?_)
    · rw [if_pos c2] at hF
      refine lv_null hM.x hM.b dX1_spitAt_30 ?_
      exact k_eret (v := none) hM hr hw (Nat.le_of_ble_eq_true rfl) (Nat.le_of_ble_eq_true rfl) ⟨hF.symm, rfl⟩ dX1_spitAt_31
    · rw [if_neg c2] at hF
      refine lv_iload_n hM.x hM.b dX1_spitAt_12 rfl (lv_at hl 1 rfl) ?_
      refine lv_aload_n hM.x hM.b dX1_spitAt_13 rfl (lv_at hl 0 rfl) ?_
      refine k_get1r 1 hM hw hk (by decide) u_fl_X1_19 dX1_spitAt_14 ?_
      refine k_alen (v := 6) hM hw (kd_lt (kd1_8 hk) (by decide)) 3 (sh8 (kd1_8 hk)) rfl rfl dX1_spitAt_17 ?_
      refine lv_icmp_ge (tgt := 30) hM.x hM.b dX1_spitAt_18 (by decide) (fun c3 => ?_) (fun c3 => ?_)
      · rw [if_pos c3] at hF
        refine lv_null hM.x hM.b dX1_spitAt_30 ?_
        exact k_eret (v := none) hM hr hw (Nat.le_of_ble_eq_true rfl) (Nat.le_of_ble_eq_true rfl) ⟨hF.symm, rfl⟩ dX1_spitAt_31
      · rw [if_neg c3] at hF
        refine lv_aload_n hM.x hM.b dX1_spitAt_21 rfl (lv_at hl 0 rfl) ?_
        refine k_get1r 1 hM hw hk (by decide) u_fl_X1_19 dX1_spitAt_22 ?_
        refine lv_iload_n hM.x hM.b dX1_spitAt_25 rfl (lv_at hl 1 rfl) ?_
        refine k_ald8 hM hw hk (vpin1 (M := 6) (n := 6) rfl c1 c3) dX1_spitAt_26 ?_
        refine lv_goto (tgt := 31) hM.x hM.b dX1_spitAt_27 (by decide) ?_
        exact k_eret (v := some (k + 7 + (a).toNatClampNeg)) hM hr hw (Nat.le_of_ble_eq_true rfl) (Nat.le_of_ble_eq_true rfl) ⟨hF.symm, rfl⟩ dX1_spitAt_31
theorem sm_X1_spitAt {κ : Kp} {k : Nat} {a : Int32} {p : Nat} (h : f_X1_spitAt κ k a = some p) : ¬ a < 0 ∧ ¬ κ k 4 ≤ a ∧ a.toNatClampNeg < 6 ∧ p = k + 7 + a.toNatClampNeg := by
  unfold f_X1_spitAt at h
  by_cases h1 : a < 0
  · rw [if_pos h1] at h; cases h
  · rw [if_neg h1] at h
    by_cases h2 : κ k 4 ≤ a
    · rw [if_pos h2] at h; cases h
    · rw [if_neg h2] at h
      by_cases h3 : (6 : Int32) ≤ a
      · rw [if_pos h3] at h; cases h
      · rw [if_neg h3] at h
        cases h
        exact ⟨h1, h2, vpin_lt (vpin1 (M := 6) (n := 6) rfl h1 h3), rfl⟩
theorem kdp_X1_spitAt {κ : Kp} {k : Nat} {a : Int32} {p : Nat} (hk : kd k = 1) (h : f_X1_spitAt κ k a = some p) : kd p = 3 := by
  obtain ⟨-, -, h3, rfl⟩ := sm_X1_spitAt h
  exact kd1_3 hk h3
theorem q_X1_roastAt : hdV yX1_roastAt RX1 1 := ⟨rfl, by decide +kernel, by decide +kernel, by decide +kernel⟩
def f_X1_roastAt (κ : Kp) (k : Nat) (a : Int32) : Option Nat := if (a) < 0 then (none) else (if (κ (k) 5) ≤ (a) then (none) else (if (16) ≤ (a) then (none) else (some (k + 13 + 2 * (a).toNatClampNeg))))
set_option maxRecDepth 100000 in
set_option maxHeartbeats 4000000 in
theorem m_X1_roastAt (l : Launch) (g : Gt) (κ : Kp) (sz : Nat) (k : Nat) (a : Int32) (hk : kd k = 1) : Met l yX1_roastAt (.code yX1_roastAt cX1_roastAt 2 (some (.object "KitchenSpits$Roast")) :: uW) { frames := 0, cells := 0, slots := 0, locals := 0 } (PRE g κ sz [.ref (g.2.2 (k)), .int (a)]) (va_Qe g.2.2 (fun r κ' => r = f_X1_roastAt κ k a ∧ κ' = κ) (Wp g) (fr g sz)) 0 0 (fr g sz) := by
  refine k_enter (by decide +kernel) (Nat.le_of_ble_eq_true rfl) ?_
  intro p e s m below meth c ls hM hr hl hw hsz
  subst hsz
  have hl : lv_has ls 2 [(0, .ref (g.2.2 (k))), (1, .int (a))] := hl
  have hF := f_X1_roastAt.eq_1 κ k a
  refine lv_iload_n hM.x hM.b dX1_roastAt_0 rfl (lv_at hl 1 rfl) ?_
  refine lv_if_lt (tgt := 30) hM.x hM.b dX1_roastAt_1 (by decide) (fun c1 => ?_) (fun c1 => ?_)
  · rw [if_pos c1] at hF
    refine lv_null hM.x hM.b dX1_roastAt_30 ?_
    exact k_eret (v := none) hM hr hw (Nat.le_of_ble_eq_true rfl) (Nat.le_of_ble_eq_true rfl) ⟨hF.symm, rfl⟩ dX1_roastAt_31
  · rw [if_neg c1] at hF
    refine lv_iload_n hM.x hM.b dX1_roastAt_4 rfl (lv_at hl 1 rfl) ?_
    refine lv_aload_n hM.x hM.b dX1_roastAt_5 rfl (lv_at hl 0 rfl) ?_
    refine k_get1 5 hM hw hk (by decide) u_fl_X1_52 dX1_roastAt_6 ?_
    refine lv_icmp_ge (tgt := 30) hM.x hM.b dX1_roastAt_9 (by decide) (fun c2 => ?_) (fun c2 => ?_)
    · rw [if_pos c2] at hF
      refine lv_null hM.x hM.b dX1_roastAt_30 ?_
      exact k_eret (v := none) hM hr hw (Nat.le_of_ble_eq_true rfl) (Nat.le_of_ble_eq_true rfl) ⟨hF.symm, rfl⟩ dX1_roastAt_31
    · rw [if_neg c2] at hF
      refine lv_iload_n hM.x hM.b dX1_roastAt_12 rfl (lv_at hl 1 rfl) ?_
      refine lv_aload_n hM.x hM.b dX1_roastAt_13 rfl (lv_at hl 0 rfl) ?_
      refine k_get1r 2 hM hw hk (by decide) u_fl_X1_25 dX1_roastAt_14 ?_
      refine k_alen (v := 16) hM hw (kd_lt (kd1_9 hk) (by decide)) 4 (sh9 (kd1_9 hk)) rfl rfl dX1_roastAt_17 ?_
      refine lv_icmp_ge (tgt := 30) hM.x hM.b dX1_roastAt_18 (by decide) (fun c3 => ?_) (fun c3 => ?_)
      · rw [if_pos c3] at hF
        refine lv_null hM.x hM.b dX1_roastAt_30 ?_
        exact k_eret (v := none) hM hr hw (Nat.le_of_ble_eq_true rfl) (Nat.le_of_ble_eq_true rfl) ⟨hF.symm, rfl⟩ dX1_roastAt_31
      · rw [if_neg c3] at hF
        refine lv_aload_n hM.x hM.b dX1_roastAt_21 rfl (lv_at hl 0 rfl) ?_
        refine k_get1r 2 hM hw hk (by decide) u_fl_X1_25 dX1_roastAt_22 ?_
        refine lv_iload_n hM.x hM.b dX1_roastAt_25 rfl (lv_at hl 1 rfl) ?_
        refine k_ald9 hM hw hk (vpin1 (M := 16) (n := 16) rfl c1 c3) dX1_roastAt_26 ?_
        refine lv_goto (tgt := 31) hM.x hM.b dX1_roastAt_27 (by decide) ?_
        exact k_eret (v := some (k + 13 + 2 * (a).toNatClampNeg)) hM hr hw (Nat.le_of_ble_eq_true rfl) (Nat.le_of_ble_eq_true rfl) ⟨hF.symm, rfl⟩ dX1_roastAt_31
theorem sm_X1_roastAt {κ : Kp} {k : Nat} {a : Int32} {p : Nat} (h : f_X1_roastAt κ k a = some p) : ¬ a < 0 ∧ ¬ κ k 5 ≤ a ∧ a.toNatClampNeg < 16 ∧ p = k + 13 + 2 * a.toNatClampNeg := by
  unfold f_X1_roastAt at h
  by_cases h1 : a < 0
  · rw [if_pos h1] at h; cases h
  · rw [if_neg h1] at h
    by_cases h2 : κ k 5 ≤ a
    · rw [if_pos h2] at h; cases h
    · rw [if_neg h2] at h
      by_cases h3 : (16 : Int32) ≤ a
      · rw [if_pos h3] at h; cases h
      · rw [if_neg h3] at h
        cases h
        exact ⟨h1, h2, vpin_lt (vpin1 (M := 16) (n := 16) rfl h1 h3), rfl⟩
theorem kdp_X1_roastAt {κ : Kp} {k : Nat} {a : Int32} {p : Nat} (hk : kd k = 1) (h : f_X1_roastAt κ k a = some p) : kd p = 2 := by
  obtain ⟨-, -, h3, rfl⟩ := sm_X1_roastAt h
  exact kd1_2 hk h3
theorem q_X1_placeFire : hdV yX1_placeFire RX1 0 := ⟨rfl, by decide +kernel, by decide +kernel, by decide +kernel⟩
def f_X1_placeFire (κ : Kp) (k : Nat) : Int32 × Kp := if (κ (k) 3) < (3) then ((fun κ1 : Kp => (((κ1 (k) 3) - (1)), κ1)) (up2 κ (k) 3 (((κ (k) 3) + (1))))) else (((-1), κ))
set_option maxRecDepth 100000 in
set_option maxHeartbeats 4000000 in
theorem m_X1_placeFire (l : Launch) (g : Gt) (κ : Kp) (sz : Nat) (k : Nat) (hk : kd k = 1) : Met l yX1_placeFire (.code yX1_placeFire cX1_placeFire 1 (some .int) :: uW) { frames := 0, cells := 0, slots := 0, locals := 0 } (PRE g κ sz [.ref (g.2.2 (k))]) (va_Qi (fun r κ' => f_X1_placeFire κ k = (r, κ')) (Wp g) (fr g sz)) 0 0 (fr g sz) := by
  refine k_enter (by decide +kernel) (Nat.le_of_ble_eq_true rfl) ?_
  intro p e s m below meth c ls hM hr hl hw hsz
  subst hsz
  have hl : lv_has ls 1 [(0, .ref (g.2.2 (k)))] := hl
  have hF := f_X1_placeFire.eq_1 κ k
  refine lv_aload_n hM.x hM.b dX1_placeFire_0 rfl (lv_at hl 0 rfl) ?_
  refine k_get1 3 hM hw hk (by decide) u_fl_X1_46 dX1_placeFire_1 ?_
  refine lv_aload_n hM.x hM.b dX1_placeFire_4 rfl (lv_at hl 0 rfl) ?_
  refine k_get1r 0 hM hw hk (by decide) u_fl_X1_11 dX1_placeFire_5 ?_
  refine k_alen (v := 3) hM hw (kd_lt (kd1_7 hk) (by decide)) 2 (sh7 (kd1_7 hk)) rfl rfl dX1_placeFire_8 ?_
  refine lv_icmp_lt (tgt := 14) hM.x hM.b dX1_placeFire_9 (by decide) (fun c1 => ?_) (fun c1 => ?_)
  · rw [if_pos c1] at hF
    refine lv_aload_n hM.x hM.b dX1_placeFire_14 rfl (lv_at hl 0 rfl) ?_
    refine lv_dup hM.x hM.b dX1_placeFire_15 rfl ?_
    refine k_get1 3 hM hw hk (by decide) u_fl_X1_46 dX1_placeFire_16 ?_
    refine lv_iconst (v := 1) hM.x hM.b dX1_placeFire_19 (by decide) ?_
    refine lv_iadd hM.x hM.b dX1_placeFire_20 ?_
    refine k_put1 3 hM hw hk (by decide) u_fl_X1_46 dX1_placeFire_21 (fun H locs hw => ?_)
    obtain ⟨κ1, eκ1⟩ : ∃ z : Kp, up2 κ (k) 3 (((κ (k) 3) + (1))) = z := ⟨_, rfl⟩
    rw [eκ1] at hw
    rw [eκ1] at hF
    try dsimp only at hF
    refine lv_aload_n hM.x hM.b dX1_placeFire_24 rfl (lv_at hl 0 rfl) ?_
    refine k_get1 3 hM hw hk (by decide) u_fl_X1_46 dX1_placeFire_25 ?_
    refine lv_iconst (v := 1) hM.x hM.b dX1_placeFire_28 (by decide) ?_
    refine lv_isub hM.x hM.b dX1_placeFire_29 ?_
    exact k_iret hM hr hw (Nat.le_of_ble_eq_true rfl) (Nat.le_of_ble_eq_true rfl) hF dX1_placeFire_30
  · rw [if_neg c1] at hF
    refine lv_iconst (v := -1) hM.x hM.b dX1_placeFire_12 (by decide) ?_
    exact k_iret hM hr hw (Nat.le_of_ble_eq_true rfl) (Nat.le_of_ble_eq_true rfl) hF dX1_placeFire_13
theorem q_X1_placeSpit : hdV yX1_placeSpit RX1 2 := ⟨rfl, by decide +kernel, by decide +kernel, by decide +kernel⟩
def f_X1_placeSpit (κ : Kp) (k : Nat) (a : Int32) (b : Int32) : Int32 × Kp := if (κ (k) 4) < 0 then (((-1), κ)) else (if (κ (k) 4) < (6) then ((fun κ1 : Kp => (fun κ2 : Kp => (fun κ3 : Kp => (((κ3 (k) 4) - (1)), κ3)) (up2 κ2 (k) 4 (((κ2 (k) 4) + (1))))) (up2 κ1 (k + 7 + (κ (k) 4).toNatClampNeg) 1 (b))) (up2 κ (k + 7 + (κ (k) 4).toNatClampNeg) 0 (a))) else (((-1), κ)))
set_option maxRecDepth 100000 in
set_option maxHeartbeats 4000000 in
theorem m_X1_placeSpit (l : Launch) (g : Gt) (κ : Kp) (sz : Nat) (k : Nat) (a : Int32) (b : Int32) (hk : kd k = 1) : Met l yX1_placeSpit (.code yX1_placeSpit cX1_placeSpit 4 (some .int) :: uW) { frames := 0, cells := 0, slots := 0, locals := 0 } (PRE g κ sz [.ref (g.2.2 (k)), .int (a), .int (b)]) (va_Qi (fun r κ' => f_X1_placeSpit κ k a b = (r, κ')) (Wp g) (fr g sz)) 0 0 (fr g sz) := by
  refine k_enter (by decide +kernel) (Nat.le_of_ble_eq_true rfl) ?_
  intro p e s m below meth c ls hM hr hl hw hsz
  subst hsz
  have hl : lv_has ls 4 [(0, .ref (g.2.2 (k))), (1, .int (a)), (2, .int (b))] := hl
  have hF := f_X1_placeSpit.eq_1 κ k a b
  refine lv_aload_n hM.x hM.b dX1_placeSpit_0 rfl (lv_at hl 0 rfl) ?_
  refine k_get1 4 hM hw hk (by decide) u_fl_X1_49 dX1_placeSpit_1 ?_
  refine lv_if_lt (tgt := 19) hM.x hM.b dX1_placeSpit_4 (by decide) (fun c1 => ?_) (fun c1 => ?_)
  · rw [if_pos c1] at hF
    refine lv_iconst (v := -1) hM.x hM.b dX1_placeSpit_19 (by decide) ?_
    exact k_iret hM hr hw (Nat.le_of_ble_eq_true rfl) (Nat.le_of_ble_eq_true rfl) hF dX1_placeSpit_20
  · rw [if_neg c1] at hF
    refine lv_aload_n hM.x hM.b dX1_placeSpit_7 rfl (lv_at hl 0 rfl) ?_
    refine k_get1 4 hM hw hk (by decide) u_fl_X1_49 dX1_placeSpit_8 ?_
    refine lv_aload_n hM.x hM.b dX1_placeSpit_11 rfl (lv_at hl 0 rfl) ?_
    refine k_get1r 1 hM hw hk (by decide) u_fl_X1_19 dX1_placeSpit_12 ?_
    refine k_alen (v := 6) hM hw (kd_lt (kd1_8 hk) (by decide)) 3 (sh8 (kd1_8 hk)) rfl rfl dX1_placeSpit_15 ?_
    refine lv_icmp_lt (tgt := 21) hM.x hM.b dX1_placeSpit_16 (by decide) (fun c2 => ?_) (fun c2 => ?_)
    · rw [if_pos c2] at hF
      refine lv_aload_n hM.x hM.b dX1_placeSpit_21 rfl (lv_at hl 0 rfl) ?_
      refine k_get1r 1 hM hw hk (by decide) u_fl_X1_19 dX1_placeSpit_22 ?_
      refine lv_aload_n hM.x hM.b dX1_placeSpit_25 rfl (lv_at hl 0 rfl) ?_
      refine k_get1 4 hM hw hk (by decide) u_fl_X1_49 dX1_placeSpit_26 ?_
      refine k_ald8 hM hw hk (vpin2 (M := 6) (n := 6) rfl c1 c2) dX1_placeSpit_29 ?_
      refine lv_astore_n (lv' := [(3, .ref (g.2.2 (k + 7 + (κ (k) 4).toNatClampNeg))), (0, .ref (g.2.2 (k))), (1, .int (a)), (2, .int (b))]) hM.x hM.b dX1_placeSpit_30 rfl hl (by decide) rfl (fun ls hl => ?_)
      refine lv_aload_n hM.x hM.b dX1_placeSpit_31 rfl (lv_at hl 0 rfl) ?_
      refine lv_iload_n hM.x hM.b dX1_placeSpit_32 rfl (lv_at hl 2 rfl) ?_
      refine k_put3 0 hM hw (kd1_3 hk (vpin_lt (vpin2 (M := 6) (n := 6) rfl c1 c2))) (by decide) u_fl_X1_58 dX1_placeSpit_33 (fun H locs hw => ?_)
      obtain ⟨κ1, eκ1⟩ : ∃ z : Kp, up2 κ (k + 7 + (κ (k) 4).toNatClampNeg) 0 (a) = z := ⟨_, rfl⟩
      rw [eκ1] at hw
      rw [eκ1] at hF
      try dsimp only at hF
      refine lv_aload_n hM.x hM.b dX1_placeSpit_36 rfl (lv_at hl 0 rfl) ?_
      refine lv_iload_n hM.x hM.b dX1_placeSpit_37 rfl (lv_at hl 3 rfl) ?_
      refine k_put3 1 hM hw (kd1_3 hk (vpin_lt (vpin2 (M := 6) (n := 6) rfl c1 c2))) (by decide) u_fl_X1_61 dX1_placeSpit_38 (fun H locs hw => ?_)
      obtain ⟨κ2, eκ2⟩ : ∃ z : Kp, up2 κ1 (k + 7 + (κ (k) 4).toNatClampNeg) 1 (b) = z := ⟨_, rfl⟩
      rw [eκ2] at hw
      rw [eκ2] at hF
      try dsimp only at hF
      refine lv_aload_n hM.x hM.b dX1_placeSpit_41 rfl (lv_at hl 1 rfl) ?_
      refine lv_dup hM.x hM.b dX1_placeSpit_42 rfl ?_
      refine k_get1 4 hM hw hk (by decide) u_fl_X1_49 dX1_placeSpit_43 ?_
      refine lv_iconst (v := 1) hM.x hM.b dX1_placeSpit_46 (by decide) ?_
      refine lv_iadd hM.x hM.b dX1_placeSpit_47 ?_
      refine k_put1 4 hM hw hk (by decide) u_fl_X1_49 dX1_placeSpit_48 (fun H locs hw => ?_)
      obtain ⟨κ3, eκ3⟩ : ∃ z : Kp, up2 κ2 (k) 4 (((κ2 (k) 4) + (1))) = z := ⟨_, rfl⟩
      rw [eκ3] at hw
      rw [eκ3] at hF
      try dsimp only at hF
      refine lv_aload_n hM.x hM.b dX1_placeSpit_51 rfl (lv_at hl 1 rfl) ?_
      refine k_get1 4 hM hw hk (by decide) u_fl_X1_49 dX1_placeSpit_52 ?_
      refine lv_iconst (v := 1) hM.x hM.b dX1_placeSpit_55 (by decide) ?_
      refine lv_isub hM.x hM.b dX1_placeSpit_56 ?_
      exact k_iret hM hr hw (Nat.le_of_ble_eq_true rfl) (Nat.le_of_ble_eq_true rfl) hF dX1_placeSpit_57
    · rw [if_neg c2] at hF
      refine lv_iconst (v := -1) hM.x hM.b dX1_placeSpit_19 (by decide) ?_
      exact k_iret hM hr hw (Nat.le_of_ble_eq_true rfl) (Nat.le_of_ble_eq_true rfl) hF dX1_placeSpit_20
theorem q_X1_placeRoast : hdV yX1_placeRoast RX1 2 := ⟨rfl, by decide +kernel, by decide +kernel, by decide +kernel⟩
def f_X1_placeRoast (κ : Kp) (k : Nat) (a : Int32) (b : Int32) : Int32 × Kp := match f_X1_spitAt κ (k) (a) with | none => ((-1), κ) | some p1 => if (κ (p1) 5) = ((-1)) then (if (κ (k) 5) < 0 then (((-1), κ)) else (if (κ (k) 5) < (16) then ((fun κ1 : Kp => (fun κ2 : Kp => (fun κ3 : Kp => (fun κ4 : Kp => (fun κ5 : Kp => (fun κ6 : Kp => (κ6 (p1) 5, κ6)) (up2 κ5 (k) 5 (((κ5 (k) 5) + (1))))) (up2 κ4 (p1) 3 (0))) (up2 κ3 (p1) 5 (κ3 (k) 5))) (up2 κ2 (k + 13 + 2 * (κ (k) 5).toNatClampNeg) 2 (a))) (up2 κ1 (k + 13 + 2 * (κ (k) 5).toNatClampNeg) 4 (((3) * (b))))) (up2 κ (k + 13 + 2 * (κ (k) 5).toNatClampNeg) 1 (b))) else (((-1), κ)))) else (((-1), κ))
set_option maxRecDepth 100000 in
set_option maxHeartbeats 4000000 in
theorem m_X1_placeRoast (l : Launch) (g : Gt) (κ : Kp) (sz : Nat) (k : Nat) (a : Int32) (b : Int32) (hk : kd k = 1) : Met l yX1_placeRoast (.code yX1_placeRoast cX1_placeRoast 5 (some .int) :: uW) { frames := 1, cells := 0, slots := 0, locals := 30 } (PRE g κ sz [.ref (g.2.2 (k)), .int (a), .int (b)]) (va_Qi (fun r κ' => f_X1_placeRoast κ k a b = (r, κ')) (Wp g) (fr g sz)) 0 0 (fr g sz) := by
  refine k_enter (by decide +kernel) (Nat.le_of_ble_eq_true rfl) ?_
  intro p e s m below meth c ls hM hr hl hw hsz
  subst hsz
  have hl : lv_has ls 5 [(0, .ref (g.2.2 (k))), (1, .int (a)), (2, .int (b))] := hl
  have hF := f_X1_placeRoast.eq_1 κ k a b
  refine lv_aload_n hM.x hM.b dX1_placeRoast_0 rfl (lv_at hl 0 rfl) ?_
  refine lv_iload_n hM.x hM.b dX1_placeRoast_1 rfl (lv_at hl 1 rfl) ?_
  refine k_cepO hw (k_runV [.int (a)] [] hM hw (m_X1_spitAt l g κ _ (k) (a) (hk)) (kd_lt hk (by decide)) (sh1 hk) rfl (k_gV u_ml_X1_64 u_im_X1_spitAt u_se_X1_spitAt u_ini_X1 u_co_X1_spitAt) (q_X1_spitAt) rfl rfl rfl ⟨Nat.le_of_ble_eq_true rfl, Nat.le_of_ble_eq_true rfl⟩ hl.1 rfl (Nat.le_of_ble_eq_true rfl) dX1_placeRoast_2 ⟨Nat.le_of_ble_eq_true rfl, Nat.le_of_ble_eq_true rfl⟩) (fun H locs ho hw => ?_) (fun p1 H locs ho hw => ?_)
  · simp only [ho] at hF
    refine lv_astore_nN (lv' := [(3, .null), (0, .ref (g.2.2 (k))), (1, .int (a)), (2, .int (b))]) hM.x hM.b dX1_placeRoast_5 rfl hl (by decide) rfl (fun ls hl => ?_)
    refine lv_aload_nN hM.x hM.b dX1_placeRoast_6 rfl (lv_at hl 0 rfl) ?_
    refine lv_ifnullN (tgt := 37) hM.x hM.b dX1_placeRoast_7 (by decide) ?_
    refine lv_iconst (v := -1) hM.x hM.b dX1_placeRoast_37 (by decide) ?_
    exact k_iret hM hr hw (Nat.le_of_ble_eq_true rfl) (Nat.le_of_ble_eq_true rfl) hF dX1_placeRoast_38
  · simp only [ho] at hF
    have hop1 := ho
    refine lv_astore_n (lv' := [(3, .ref (g.2.2 (p1))), (0, .ref (g.2.2 (k))), (1, .int (a)), (2, .int (b))]) hM.x hM.b dX1_placeRoast_5 rfl hl (by decide) rfl (fun ls hl => ?_)
    refine lv_aload_n hM.x hM.b dX1_placeRoast_6 rfl (lv_at hl 0 rfl) ?_
    refine lv_ifnull hM.x hM.b dX1_placeRoast_7 ?_
    refine lv_aload_n hM.x hM.b dX1_placeRoast_10 rfl (lv_at hl 0 rfl) ?_
    refine k_get3 5 hM hw (kdp_X1_spitAt hk hop1) (by decide) u_fl_X1_68 dX1_placeRoast_11 ?_
    refine lv_iconst (v := -1) hM.x hM.b dX1_placeRoast_14 (by decide) ?_
    refine lv_icmp_ne (tgt := 37) hM.x hM.b dX1_placeRoast_15 (by decide) (fun c1 => ?_) (fun c1 => ?_)
    · rw [if_neg c1] at hF
      refine lv_iconst (v := -1) hM.x hM.b dX1_placeRoast_37 (by decide) ?_
      exact k_iret hM hr hw (Nat.le_of_ble_eq_true rfl) (Nat.le_of_ble_eq_true rfl) hF dX1_placeRoast_38
    · rw [if_pos c1] at hF
      refine lv_aload_n hM.x hM.b dX1_placeRoast_18 rfl (lv_at hl 1 rfl) ?_
      refine k_get1 5 hM hw hk (by decide) u_fl_X1_52 dX1_placeRoast_19 ?_
      refine lv_if_lt (tgt := 37) hM.x hM.b dX1_placeRoast_22 (by decide) (fun c2 => ?_) (fun c2 => ?_)
      · rw [if_pos c2] at hF
        refine lv_iconst (v := -1) hM.x hM.b dX1_placeRoast_37 (by decide) ?_
        exact k_iret hM hr hw (Nat.le_of_ble_eq_true rfl) (Nat.le_of_ble_eq_true rfl) hF dX1_placeRoast_38
      · rw [if_neg c2] at hF
        refine lv_aload_n hM.x hM.b dX1_placeRoast_25 rfl (lv_at hl 1 rfl) ?_
        refine k_get1 5 hM hw hk (by decide) u_fl_X1_52 dX1_placeRoast_26 ?_
        refine lv_aload_n hM.x hM.b dX1_placeRoast_29 rfl (lv_at hl 1 rfl) ?_
        refine k_get1r 2 hM hw hk (by decide) u_fl_X1_25 dX1_placeRoast_30 ?_
        refine k_alen (v := 16) hM hw (kd_lt (kd1_9 hk) (by decide)) 4 (sh9 (kd1_9 hk)) rfl rfl dX1_placeRoast_33 ?_
        refine lv_icmp_lt (tgt := 39) hM.x hM.b dX1_placeRoast_34 (by decide) (fun c3 => ?_) (fun c3 => ?_)
        · rw [if_pos c3] at hF
          refine lv_aload_n hM.x hM.b dX1_placeRoast_39 rfl (lv_at hl 1 rfl) ?_
          refine k_get1r 2 hM hw hk (by decide) u_fl_X1_25 dX1_placeRoast_40 ?_
          refine lv_aload_n hM.x hM.b dX1_placeRoast_43 rfl (lv_at hl 1 rfl) ?_
          refine k_get1 5 hM hw hk (by decide) u_fl_X1_52 dX1_placeRoast_44 ?_
          refine k_ald9 hM hw hk (vpin2 (M := 16) (n := 16) rfl c2 c3) dX1_placeRoast_47 ?_
          refine lv_astore (lv' := [(4, .ref (g.2.2 (k + 13 + 2 * (κ (k) 5).toNatClampNeg))), (3, .ref (g.2.2 (p1))), (0, .ref (g.2.2 (k))), (1, .int (a)), (2, .int (b))]) hM.x hM.b dX1_placeRoast_48 hl (by decide) rfl (fun ls hl => ?_)
          refine lv_aload hM.x hM.b dX1_placeRoast_50 (lv_at hl 0 rfl) ?_
          refine lv_iload_n hM.x hM.b dX1_placeRoast_52 rfl (lv_at hl 4 rfl) ?_
          refine k_put2 1 hM hw (kd1_2 hk (vpin_lt (vpin2 (M := 16) (n := 16) rfl c2 c3))) (by decide) u_fl_X1_71 dX1_placeRoast_53 (fun H locs hw => ?_)
          obtain ⟨κ1, eκ1⟩ : ∃ z : Kp, up2 κ (k + 13 + 2 * (κ (k) 5).toNatClampNeg) 1 (b) = z := ⟨_, rfl⟩
          rw [eκ1] at hw
          rw [eκ1] at hF
          try dsimp only at hF
          refine lv_aload hM.x hM.b dX1_placeRoast_56 (lv_at hl 0 rfl) ?_
          refine lv_iconst (v := 3) hM.x hM.b dX1_placeRoast_58 (by decide) ?_
          refine lv_iload_n hM.x hM.b dX1_placeRoast_59 rfl (lv_at hl 4 rfl) ?_
          refine lv_imul hM.x hM.b dX1_placeRoast_60 ?_
          refine k_put2 4 hM hw (kd1_2 hk (vpin_lt (vpin2 (M := 16) (n := 16) rfl c2 c3))) (by decide) u_fl_X1_74 dX1_placeRoast_61 (fun H locs hw => ?_)
          obtain ⟨κ2, eκ2⟩ : ∃ z : Kp, up2 κ1 (k + 13 + 2 * (κ (k) 5).toNatClampNeg) 4 (((3) * (b))) = z := ⟨_, rfl⟩
          rw [eκ2] at hw
          rw [eκ2] at hF
          try dsimp only at hF
          refine lv_aload hM.x hM.b dX1_placeRoast_64 (lv_at hl 0 rfl) ?_
          refine lv_iload_n hM.x hM.b dX1_placeRoast_66 rfl (lv_at hl 3 rfl) ?_
          refine k_put2 2 hM hw (kd1_2 hk (vpin_lt (vpin2 (M := 16) (n := 16) rfl c2 c3))) (by decide) u_fl_X1_77 dX1_placeRoast_67 (fun H locs hw => ?_)
          obtain ⟨κ3, eκ3⟩ : ∃ z : Kp, up2 κ2 (k + 13 + 2 * (κ (k) 5).toNatClampNeg) 2 (a) = z := ⟨_, rfl⟩
          rw [eκ3] at hw
          rw [eκ3] at hF
          try dsimp only at hF
          refine lv_aload_n hM.x hM.b dX1_placeRoast_70 rfl (lv_at hl 1 rfl) ?_
          refine lv_aload_n hM.x hM.b dX1_placeRoast_71 rfl (lv_at hl 2 rfl) ?_
          refine k_get1 5 hM hw hk (by decide) u_fl_X1_52 dX1_placeRoast_72 ?_
          refine k_put3 5 hM hw (kdp_X1_spitAt hk hop1) (by decide) u_fl_X1_68 dX1_placeRoast_75 (fun H locs hw => ?_)
          obtain ⟨κ4, eκ4⟩ : ∃ z : Kp, up2 κ3 (p1) 5 (κ3 (k) 5) = z := ⟨_, rfl⟩
          rw [eκ4] at hw
          rw [eκ4] at hF
          try dsimp only at hF
          refine lv_aload_n hM.x hM.b dX1_placeRoast_78 rfl (lv_at hl 1 rfl) ?_
          refine lv_iconst (v := 0) hM.x hM.b dX1_placeRoast_79 (by decide) ?_
          refine k_put3 3 hM hw (kdp_X1_spitAt hk hop1) (by decide) u_fl_X1_80 dX1_placeRoast_80 (fun H locs hw => ?_)
          obtain ⟨κ5, eκ5⟩ : ∃ z : Kp, up2 κ4 (p1) 3 (0) = z := ⟨_, rfl⟩
          rw [eκ5] at hw
          rw [eκ5] at hF
          try dsimp only at hF
          refine lv_aload_n hM.x hM.b dX1_placeRoast_83 rfl (lv_at hl 2 rfl) ?_
          refine lv_dup hM.x hM.b dX1_placeRoast_84 rfl ?_
          refine k_get1 5 hM hw hk (by decide) u_fl_X1_52 dX1_placeRoast_85 ?_
          refine lv_iconst (v := 1) hM.x hM.b dX1_placeRoast_88 (by decide) ?_
          refine lv_iadd hM.x hM.b dX1_placeRoast_89 ?_
          refine k_put1 5 hM hw hk (by decide) u_fl_X1_52 dX1_placeRoast_90 (fun H locs hw => ?_)
          obtain ⟨κ6, eκ6⟩ : ∃ z : Kp, up2 κ5 (k) 5 (((κ5 (k) 5) + (1))) = z := ⟨_, rfl⟩
          rw [eκ6] at hw
          rw [eκ6] at hF
          try dsimp only at hF
          refine lv_aload_n hM.x hM.b dX1_placeRoast_93 rfl (lv_at hl 1 rfl) ?_
          refine k_get3 5 hM hw (kdp_X1_spitAt hk hop1) (by decide) u_fl_X1_68 dX1_placeRoast_94 ?_
          exact k_iret hM hr hw (Nat.le_of_ble_eq_true rfl) (Nat.le_of_ble_eq_true rfl) hF dX1_placeRoast_97
        · rw [if_neg c3] at hF
          refine lv_iconst (v := -1) hM.x hM.b dX1_placeRoast_37 (by decide) ?_
          exact k_iret hM hr hw (Nat.le_of_ble_eq_true rfl) (Nat.le_of_ble_eq_true rfl) hF dX1_placeRoast_38
theorem q_X1_glowOf : hdV yX1_glowOf RX1 1 := ⟨rfl, by decide +kernel, by decide +kernel, by decide +kernel⟩
def f_X1_glowOf (κ : Kp) (k : Nat) (q : Nat) : Int32 := match f_X1_fireAt κ (k) (κ (q) 0) with | none => 0 | some p1 => if 0 < (κ (q) 1) then (((κ (p1) 1) / (κ (q) 1))) else (0)
set_option maxRecDepth 100000 in
set_option maxHeartbeats 4000000 in
theorem m_X1_glowOf (l : Launch) (g : Gt) (κ : Kp) (sz : Nat) (k : Nat) (q : Nat) (hk : kd k = 1) (hq : kd q = 3) : Met l yX1_glowOf (.code yX1_glowOf cX1_glowOf 3 (some .int) :: uW) { frames := 1, cells := 0, slots := 0, locals := 30 } (PRE g κ sz [.ref (g.2.2 (k)), .ref (g.2.2 (q))]) (va_Qi (fun r κ' => r = f_X1_glowOf κ k q ∧ κ' = κ) (Wp g) (fr g sz)) 0 0 (fr g sz) := by
  refine k_enter (by decide +kernel) (Nat.le_of_ble_eq_true rfl) ?_
  intro p e s m below meth c ls hM hr hl hw hsz
  subst hsz
  have hl : lv_has ls 3 [(0, .ref (g.2.2 (k))), (1, .ref (g.2.2 (q)))] := hl
  have hF := f_X1_glowOf.eq_1 κ k q
  refine lv_aload_n hM.x hM.b dX1_glowOf_0 rfl (lv_at hl 0 rfl) ?_
  refine lv_aload_n hM.x hM.b dX1_glowOf_1 rfl (lv_at hl 1 rfl) ?_
  refine k_get3 0 hM hw hq (by decide) u_fl_X1_58 dX1_glowOf_2 ?_
  refine k_cepO hw (k_runV [.int (κ (q) 0)] [] hM hw (m_X1_fireAt l g κ _ (k) (κ (q) 0) (hk)) (kd_lt hk (by decide)) (sh1 hk) rfl (k_gV u_ml_X1_83 u_im_X1_fireAt u_se_X1_fireAt u_ini_X1 u_co_X1_fireAt) (q_X1_fireAt) rfl rfl rfl ⟨Nat.le_of_ble_eq_true rfl, Nat.le_of_ble_eq_true rfl⟩ hl.1 rfl (Nat.le_of_ble_eq_true rfl) dX1_glowOf_5 ⟨Nat.le_of_ble_eq_true rfl, Nat.le_of_ble_eq_true rfl⟩) (fun H locs ho hw => ?_) (fun p1 H locs ho hw => ?_)
  · simp only [ho] at hF
    refine lv_astore_nN (lv' := [(2, .null), (0, .ref (g.2.2 (k))), (1, .ref (g.2.2 (q)))]) hM.x hM.b dX1_glowOf_8 rfl hl (by decide) rfl (fun ls hl => ?_)
    refine lv_aload_nN hM.x hM.b dX1_glowOf_9 rfl (lv_at hl 0 rfl) ?_
    refine lv_ifnullN (tgt := 20) hM.x hM.b dX1_glowOf_10 (by decide) ?_
    refine lv_iconst (v := 0) hM.x hM.b dX1_glowOf_20 (by decide) ?_
    refine lv_goto (tgt := 33) hM.x hM.b dX1_glowOf_21 (by decide) ?_
    exact k_iret hM hr hw (Nat.le_of_ble_eq_true rfl) (Nat.le_of_ble_eq_true rfl) ⟨hF.symm, rfl⟩ dX1_glowOf_33
  · simp only [ho] at hF
    have hop1 := ho
    refine lv_astore_n (lv' := [(2, .ref (g.2.2 (p1))), (0, .ref (g.2.2 (k))), (1, .ref (g.2.2 (q)))]) hM.x hM.b dX1_glowOf_8 rfl hl (by decide) rfl (fun ls hl => ?_)
    refine lv_aload_n hM.x hM.b dX1_glowOf_9 rfl (lv_at hl 0 rfl) ?_
    refine lv_ifnull hM.x hM.b dX1_glowOf_10 ?_
    refine lv_aload_n hM.x hM.b dX1_glowOf_13 rfl (lv_at hl 2 rfl) ?_
    refine k_get3 1 hM hw hq (by decide) u_fl_X1_61 dX1_glowOf_14 ?_
    refine lv_if_gt (tgt := 24) hM.x hM.b dX1_glowOf_17 (by decide) (fun c1 => ?_) (fun c1 => ?_)
    · rw [if_pos c1] at hF
      refine lv_aload_n hM.x hM.b dX1_glowOf_24 rfl (lv_at hl 0 rfl) ?_
      refine k_get0 1 hM hw (kdp_X1_fireAt hk hop1) (by decide) u_fl_X1_87 dX1_glowOf_25 ?_
      refine lv_aload_n hM.x hM.b dX1_glowOf_28 rfl (lv_at hl 2 rfl) ?_
      refine k_get3 1 hM hw hq (by decide) u_fl_X1_61 dX1_glowOf_29 ?_
      refine lv_idiv hM.x hM.b dX1_glowOf_32 (nz_pos2 c1) ?_
      exact k_iret hM hr hw (Nat.le_of_ble_eq_true rfl) (Nat.le_of_ble_eq_true rfl) ⟨hF.symm, rfl⟩ dX1_glowOf_33
    · rw [if_neg c1] at hF
      refine lv_iconst (v := 0) hM.x hM.b dX1_glowOf_20 (by decide) ?_
      refine lv_goto (tgt := 33) hM.x hM.b dX1_glowOf_21 (by decide) ?_
      exact k_iret hM hr hw (Nat.le_of_ble_eq_true rfl) (Nat.le_of_ble_eq_true rfl) ⟨hF.symm, rfl⟩ dX1_glowOf_33
theorem q_X1_roastForAMinute : hdV yX1_roastForAMinute RX1 1 := ⟨rfl, by decide +kernel, by decide +kernel, by decide +kernel⟩
def f_X1_roastForAMinute (κ : Kp) (k : Nat) (q : Nat) : Int32 × Kp := match f_X1_roastAt κ (k) (κ (q) 5) with | none => match f_X1_fireAt κ (k) (κ (q) 0) with | none => (bi false, κ) | some p2 => (bi false, κ) | some p1 => match f_X1_fireAt κ (k) (κ (q) 0) with | none => (bi false, κ) | some p3 => match f_X2_getGlow κ (p1) (f_X1_glowOf κ (k) (q)) with | (r1, κ1) => match f_X2_drips κ1 (p1) (r1) with | (r2, κ2) => if (r2) = 0 then (match f_X3_countsToTurn κ2 (q) with | (r3, κ3) => if (r3) = 0 then ((bi false, κ3)) else ((fun κ4 : Kp => (bi false, κ4)) (f_X2_turn κ3 (p1)))) else (match f_X3_takesDripping κ2 (q) with | (r4, κ5) => if (r4) = 0 then ((fun κ8 : Kp => match f_X3_countsToTurn κ8 (q) with | (r6, κ9) => if (r6) = 0 then ((bi true, κ9)) else ((fun κ10 : Kp => (bi true, κ10)) (f_X2_turn κ9 (p1)))) (up2 κ5 (p3) 2 (((κ5 (p3) 2) + (1))))) else (match f_X3_countsToTurn κ5 (q) with | (r5, κ6) => if (r5) = 0 then ((bi false, κ6)) else ((fun κ7 : Kp => (bi false, κ7)) (f_X2_turn κ6 (p1)))))
set_option maxRecDepth 100000 in
set_option maxHeartbeats 4000000 in
theorem m_X1_roastForAMinute (l : Launch) (g : Gt) (κ : Kp) (sz : Nat) (k : Nat) (q : Nat) (hk : kd k = 1) (hq : kd q = 3) : Met l yX1_roastForAMinute (.code yX1_roastForAMinute cX1_roastForAMinute 6 (some .boolean) :: uW) { frames := 2, cells := 0, slots := 0, locals := 60 } (PRE g κ sz [.ref (g.2.2 (k)), .ref (g.2.2 (q))]) (va_Qi (fun r κ' => f_X1_roastForAMinute κ k q = (r, κ')) (Wp g) (fr g sz)) 0 0 (fr g sz) := by
  refine k_enter (by decide +kernel) (Nat.le_of_ble_eq_true rfl) ?_
  intro p e s m below meth c ls hM hr hl hw hsz
  subst hsz
  have hl : lv_has ls 6 [(0, .ref (g.2.2 (k))), (1, .ref (g.2.2 (q)))] := hl
  have hF := f_X1_roastForAMinute.eq_1 κ k q
  refine lv_aload_n hM.x hM.b dX1_roastForAMinute_0 rfl (lv_at hl 0 rfl) ?_
  refine lv_aload_n hM.x hM.b dX1_roastForAMinute_1 rfl (lv_at hl 1 rfl) ?_
  refine k_get3 5 hM hw hq (by decide) u_fl_X1_68 dX1_roastForAMinute_2 ?_
  refine k_cepO hw (k_runV [.int (κ (q) 5)] [] hM hw (m_X1_roastAt l g κ _ (k) (κ (q) 5) (hk)) (kd_lt hk (by decide)) (sh1 hk) rfl (k_gV u_ml_X1_102 u_im_X1_roastAt u_se_X1_roastAt u_ini_X1 u_co_X1_roastAt) (q_X1_roastAt) rfl rfl rfl ⟨Nat.le_of_ble_eq_true rfl, Nat.le_of_ble_eq_true rfl⟩ hl.1 rfl (Nat.le_of_ble_eq_true rfl) dX1_roastForAMinute_5 ⟨Nat.le_of_ble_eq_true rfl, Nat.le_of_ble_eq_true rfl⟩) (fun H locs ho hw => ?_) (fun p1 H locs ho hw => ?_)
  · simp only [ho] at hF
    refine lv_astore_nN (lv' := [(2, .null), (0, .ref (g.2.2 (k))), (1, .ref (g.2.2 (q)))]) hM.x hM.b dX1_roastForAMinute_8 rfl hl (by decide) rfl (fun ls hl => ?_)
    refine lv_aload_n hM.x hM.b dX1_roastForAMinute_9 rfl (lv_at hl 1 rfl) ?_
    refine lv_aload_n hM.x hM.b dX1_roastForAMinute_10 rfl (lv_at hl 2 rfl) ?_
    refine k_get3 0 hM hw hq (by decide) u_fl_X1_58 dX1_roastForAMinute_11 ?_
    refine k_cepO hw (k_runV [.int (κ (q) 0)] [] hM hw (m_X1_fireAt l g κ _ (k) (κ (q) 0) (hk)) (kd_lt hk (by decide)) (sh1 hk) rfl (k_gV u_ml_X1_83 u_im_X1_fireAt u_se_X1_fireAt u_ini_X1 u_co_X1_fireAt) (q_X1_fireAt) rfl rfl rfl ⟨Nat.le_of_ble_eq_true rfl, Nat.le_of_ble_eq_true rfl⟩ hl.1 rfl (Nat.le_of_ble_eq_true rfl) dX1_roastForAMinute_14 ⟨Nat.le_of_ble_eq_true rfl, Nat.le_of_ble_eq_true rfl⟩) (fun H locs ho hw => ?_) (fun p2 H locs ho hw => ?_)
    · simp only [ho] at hF
      refine lv_astore_nN (lv' := [(3, .null), (2, .null), (0, .ref (g.2.2 (k))), (1, .ref (g.2.2 (q)))]) hM.x hM.b dX1_roastForAMinute_17 rfl hl (by decide) rfl (fun ls hl => ?_)
      refine lv_aload_nN hM.x hM.b dX1_roastForAMinute_18 rfl (lv_at hl 1 rfl) ?_
      refine lv_ifnullN (tgt := 26) hM.x hM.b dX1_roastForAMinute_19 (by decide) ?_
      refine lv_iconst (v := 0) hM.x hM.b dX1_roastForAMinute_26 (by decide) ?_
      exact k_zret (b := false) hM hr hw (Nat.le_of_ble_eq_true rfl) (Nat.le_of_ble_eq_true rfl) hF dX1_roastForAMinute_27
    · simp only [ho] at hF
      have hop2 := ho
      refine lv_astore_n (lv' := [(3, .ref (g.2.2 (p2))), (2, .null), (0, .ref (g.2.2 (k))), (1, .ref (g.2.2 (q)))]) hM.x hM.b dX1_roastForAMinute_17 rfl hl (by decide) rfl (fun ls hl => ?_)
      refine lv_aload_nN hM.x hM.b dX1_roastForAMinute_18 rfl (lv_at hl 1 rfl) ?_
      refine lv_ifnullN (tgt := 26) hM.x hM.b dX1_roastForAMinute_19 (by decide) ?_
      refine lv_iconst (v := 0) hM.x hM.b dX1_roastForAMinute_26 (by decide) ?_
      exact k_zret (b := false) hM hr hw (Nat.le_of_ble_eq_true rfl) (Nat.le_of_ble_eq_true rfl) hF dX1_roastForAMinute_27
  · simp only [ho] at hF
    have hop1 := ho
    refine lv_astore_n (lv' := [(2, .ref (g.2.2 (p1))), (0, .ref (g.2.2 (k))), (1, .ref (g.2.2 (q)))]) hM.x hM.b dX1_roastForAMinute_8 rfl hl (by decide) rfl (fun ls hl => ?_)
    refine lv_aload_n hM.x hM.b dX1_roastForAMinute_9 rfl (lv_at hl 1 rfl) ?_
    refine lv_aload_n hM.x hM.b dX1_roastForAMinute_10 rfl (lv_at hl 2 rfl) ?_
    refine k_get3 0 hM hw hq (by decide) u_fl_X1_58 dX1_roastForAMinute_11 ?_
    refine k_cepO hw (k_runV [.int (κ (q) 0)] [] hM hw (m_X1_fireAt l g κ _ (k) (κ (q) 0) (hk)) (kd_lt hk (by decide)) (sh1 hk) rfl (k_gV u_ml_X1_83 u_im_X1_fireAt u_se_X1_fireAt u_ini_X1 u_co_X1_fireAt) (q_X1_fireAt) rfl rfl rfl ⟨Nat.le_of_ble_eq_true rfl, Nat.le_of_ble_eq_true rfl⟩ hl.1 rfl (Nat.le_of_ble_eq_true rfl) dX1_roastForAMinute_14 ⟨Nat.le_of_ble_eq_true rfl, Nat.le_of_ble_eq_true rfl⟩) (fun H locs ho hw => ?_) (fun p3 H locs ho hw => ?_)
    · simp only [ho] at hF
      refine lv_astore_nN (lv' := [(3, .null), (2, .ref (g.2.2 (p1))), (0, .ref (g.2.2 (k))), (1, .ref (g.2.2 (q)))]) hM.x hM.b dX1_roastForAMinute_17 rfl hl (by decide) rfl (fun ls hl => ?_)
      refine lv_aload_n hM.x hM.b dX1_roastForAMinute_18 rfl (lv_at hl 1 rfl) ?_
      refine lv_ifnull hM.x hM.b dX1_roastForAMinute_19 ?_
      refine lv_aload_nN hM.x hM.b dX1_roastForAMinute_22 rfl (lv_at hl 0 rfl) ?_
      refine lv_ifnonnullN hM.x hM.b dX1_roastForAMinute_23 ?_
      refine lv_iconst (v := 0) hM.x hM.b dX1_roastForAMinute_26 (by decide) ?_
      exact k_zret (b := false) hM hr hw (Nat.le_of_ble_eq_true rfl) (Nat.le_of_ble_eq_true rfl) hF dX1_roastForAMinute_27
    · simp only [ho] at hF
      have hop3 := ho
      refine lv_astore_n (lv' := [(3, .ref (g.2.2 (p3))), (2, .ref (g.2.2 (p1))), (0, .ref (g.2.2 (k))), (1, .ref (g.2.2 (q)))]) hM.x hM.b dX1_roastForAMinute_17 rfl hl (by decide) rfl (fun ls hl => ?_)
      refine lv_aload_n hM.x hM.b dX1_roastForAMinute_18 rfl (lv_at hl 1 rfl) ?_
      refine lv_ifnull hM.x hM.b dX1_roastForAMinute_19 ?_
      refine lv_aload_n hM.x hM.b dX1_roastForAMinute_22 rfl (lv_at hl 0 rfl) ?_
      refine lv_ifnonnull (tgt := 28) hM.x hM.b dX1_roastForAMinute_23 (by decide) ?_
      refine lv_aload_n hM.x hM.b dX1_roastForAMinute_28 rfl (lv_at hl 1 rfl) ?_
      refine lv_aload_n hM.x hM.b dX1_roastForAMinute_29 rfl (lv_at hl 2 rfl) ?_
      refine lv_aload_n hM.x hM.b dX1_roastForAMinute_30 rfl (lv_at hl 3 rfl) ?_
      refine k_cip hw (k_runV [.ref (g.2.2 (q))] [.ref (g.2.2 (p1))] hM hw (m_X1_glowOf l g κ _ (k) (q) (hk) (hq)) (kd_lt hk (by decide)) (sh1 hk) rfl (k_gV u_ml_X1_106 u_im_X1_glowOf u_se_X1_glowOf u_ini_X1 u_co_X1_glowOf) (q_X1_glowOf) rfl rfl rfl ⟨Nat.le_of_ble_eq_true rfl, Nat.le_of_ble_eq_true rfl⟩ hl.1 rfl (Nat.le_of_ble_eq_true rfl) dX1_roastForAMinute_31 ⟨Nat.le_of_ble_eq_true rfl, Nat.le_of_ble_eq_true rfl⟩) (fun H locs hw => ?_)
      refine k_ci hw (k_runV [.int (f_X1_glowOf κ (k) (q))] [] hM hw (m_X2_getGlow l g κ _ (p1) (f_X1_glowOf κ (k) (q)) ((kdp_X1_roastAt hk hop1))) (kd_lt (kdp_X1_roastAt hk hop1) (by decide)) (sh2 (kdp_X1_roastAt hk hop1)) rfl (k_gV u_ml_X1_110 u_im_X2_getGlow u_se_X2_getGlow u_ini_X2 u_co_X2_getGlow) (q_X2_getGlow) rfl rfl rfl ⟨Nat.le_of_ble_eq_true rfl, Nat.le_of_ble_eq_true rfl⟩ hl.1 rfl (Nat.le_of_ble_eq_true rfl) dX1_roastForAMinute_34 ⟨Nat.le_of_ble_eq_true rfl, Nat.le_of_ble_eq_true rfl⟩) (fun r1 κ1 H locs hp hw => ?_)
      simp only [hp] at hF
      refine lv_istore (lv' := [(4, .int (r1)), (3, .ref (g.2.2 (p3))), (2, .ref (g.2.2 (p1))), (0, .ref (g.2.2 (k))), (1, .ref (g.2.2 (q)))]) hM.x hM.b dX1_roastForAMinute_37 hl (by decide) rfl (fun ls hl => ?_)
      refine lv_aload_n hM.x hM.b dX1_roastForAMinute_39 rfl (lv_at hl 2 rfl) ?_
      refine lv_iload hM.x hM.b dX1_roastForAMinute_40 (lv_at hl 0 rfl) ?_
      refine k_ci hw (k_runV [.int (r1)] [] hM hw (m_X2_drips l g κ1 _ (p1) (r1) ((kdp_X1_roastAt hk hop1))) (kd_lt (kdp_X1_roastAt hk hop1) (by decide)) (sh2 (kdp_X1_roastAt hk hop1)) rfl (k_gV u_ml_X1_114 u_im_X2_drips u_se_X2_drips u_ini_X2 u_co_X2_drips) (q_X2_drips) rfl rfl rfl ⟨Nat.le_of_ble_eq_true rfl, Nat.le_of_ble_eq_true rfl⟩ hl.1 rfl (Nat.le_of_ble_eq_true rfl) dX1_roastForAMinute_42 ⟨Nat.le_of_ble_eq_true rfl, Nat.le_of_ble_eq_true rfl⟩) (fun r2 κ2 H locs hp hw => ?_)
      simp only [hp] at hF
      refine lv_if_eq (tgt := 59) hM.x hM.b dX1_roastForAMinute_45 (by decide) (fun c1 => ?_) (fun c1 => ?_)
      · rw [if_pos c1] at hF
        refine lv_iconst (v := 0) hM.x hM.b dX1_roastForAMinute_59 (by decide) ?_
        refine lv_istore (lv' := [(5, .int (0)), (4, .int (r1)), (3, .ref (g.2.2 (p3))), (2, .ref (g.2.2 (p1))), (0, .ref (g.2.2 (k))), (1, .ref (g.2.2 (q)))]) hM.x hM.b dX1_roastForAMinute_60 hl (by decide) rfl (fun ls hl => ?_)
        refine lv_iload hM.x hM.b dX1_roastForAMinute_62 (lv_at hl 0 rfl) ?_
        refine lv_if_eq (tgt := 77) hM.x hM.b dX1_roastForAMinute_64 (by decide) (fun _ => ?_) (fun cz => absurd cz (by decide))
        refine lv_aload_n hM.x hM.b dX1_roastForAMinute_77 rfl (lv_at hl 5 rfl) ?_
        refine k_ci hw (k_runV [] [] hM hw (m_X3_countsToTurn l g κ2 _ (q) (hq)) (kd_lt hq (by decide)) (sh3 hq) rfl (k_gV u_ml_X1_125 u_im_X3_countsToTurn u_se_X3_countsToTurn u_ini_X3 u_co_X3_countsToTurn) (q_X3_countsToTurn) rfl rfl rfl ⟨Nat.le_of_ble_eq_true rfl, Nat.le_of_ble_eq_true rfl⟩ hl.1 rfl (Nat.le_of_ble_eq_true rfl) dX1_roastForAMinute_78 ⟨Nat.le_of_ble_eq_true rfl, Nat.le_of_ble_eq_true rfl⟩) (fun r3 κ3 H locs hp hw => ?_)
        simp only [hp] at hF
        refine lv_if_eq (tgt := 88) hM.x hM.b dX1_roastForAMinute_81 (by decide) (fun c2 => ?_) (fun c2 => ?_)
        · rw [if_pos c2] at hF
          refine lv_iload hM.x hM.b dX1_roastForAMinute_88 (lv_at hl 0 rfl) ?_
          exact k_zret (b := false) hM hr hw (Nat.le_of_ble_eq_true rfl) (Nat.le_of_ble_eq_true rfl) hF dX1_roastForAMinute_90
        · rw [if_neg c2] at hF
          refine lv_aload_n hM.x hM.b dX1_roastForAMinute_84 rfl (lv_at hl 3 rfl) ?_
          refine k_cvp hw (k_runV [] [] hM hw (m_X2_turn l g κ3 _ (p1) ((kdp_X1_roastAt hk hop1))) (kd_lt (kdp_X1_roastAt hk hop1) (by decide)) (sh2 (kdp_X1_roastAt hk hop1)) rfl (k_gV u_ml_X1_128 u_im_X2_turn u_se_X2_turn u_ini_X2 u_co_X2_turn) (q_X2_turn) rfl rfl rfl ⟨Nat.le_of_ble_eq_true rfl, Nat.le_of_ble_eq_true rfl⟩ hl.1 rfl (Nat.le_of_ble_eq_true rfl) dX1_roastForAMinute_85 ⟨Nat.le_of_ble_eq_true rfl, Nat.le_of_ble_eq_true rfl⟩) (fun κ4 H locs hp hw => ?_)
          rw [hp] at hF
          try dsimp only at hF
          refine lv_iload hM.x hM.b dX1_roastForAMinute_88 (lv_at hl 0 rfl) ?_
          exact k_zret (b := false) hM hr hw (Nat.le_of_ble_eq_true rfl) (Nat.le_of_ble_eq_true rfl) hF dX1_roastForAMinute_90
      · rw [if_neg c1] at hF
        refine lv_aload_n hM.x hM.b dX1_roastForAMinute_48 rfl (lv_at hl 4 rfl) ?_
        refine k_ci hw (k_runV [] [] hM hw (m_X3_takesDripping l g κ2 _ (q) (hq)) (kd_lt hq (by decide)) (sh3 hq) rfl (k_gV u_ml_X1_118 u_im_X3_takesDripping u_se_X3_takesDripping u_ini_X3 u_co_X3_takesDripping) (q_X3_takesDripping) rfl rfl rfl ⟨Nat.le_of_ble_eq_true rfl, Nat.le_of_ble_eq_true rfl⟩ hl.1 rfl (Nat.le_of_ble_eq_true rfl) dX1_roastForAMinute_49 ⟨Nat.le_of_ble_eq_true rfl, Nat.le_of_ble_eq_true rfl⟩) (fun r4 κ5 H locs hp hw => ?_)
        simp only [hp] at hF
        refine lv_if_ne (tgt := 59) hM.x hM.b dX1_roastForAMinute_52 (by decide) (fun c3 => ?_) (fun c3 => ?_)
        · rw [if_neg c3] at hF
          refine lv_iconst (v := 0) hM.x hM.b dX1_roastForAMinute_59 (by decide) ?_
          refine lv_istore (lv' := [(5, .int (0)), (4, .int (r1)), (3, .ref (g.2.2 (p3))), (2, .ref (g.2.2 (p1))), (0, .ref (g.2.2 (k))), (1, .ref (g.2.2 (q)))]) hM.x hM.b dX1_roastForAMinute_60 hl (by decide) rfl (fun ls hl => ?_)
          refine lv_iload hM.x hM.b dX1_roastForAMinute_62 (lv_at hl 0 rfl) ?_
          refine lv_if_eq (tgt := 77) hM.x hM.b dX1_roastForAMinute_64 (by decide) (fun _ => ?_) (fun cz => absurd cz (by decide))
          refine lv_aload_n hM.x hM.b dX1_roastForAMinute_77 rfl (lv_at hl 5 rfl) ?_
          refine k_ci hw (k_runV [] [] hM hw (m_X3_countsToTurn l g κ5 _ (q) (hq)) (kd_lt hq (by decide)) (sh3 hq) rfl (k_gV u_ml_X1_125 u_im_X3_countsToTurn u_se_X3_countsToTurn u_ini_X3 u_co_X3_countsToTurn) (q_X3_countsToTurn) rfl rfl rfl ⟨Nat.le_of_ble_eq_true rfl, Nat.le_of_ble_eq_true rfl⟩ hl.1 rfl (Nat.le_of_ble_eq_true rfl) dX1_roastForAMinute_78 ⟨Nat.le_of_ble_eq_true rfl, Nat.le_of_ble_eq_true rfl⟩) (fun r5 κ6 H locs hp hw => ?_)
          simp only [hp] at hF
          refine lv_if_eq (tgt := 88) hM.x hM.b dX1_roastForAMinute_81 (by decide) (fun c4 => ?_) (fun c4 => ?_)
          · rw [if_pos c4] at hF
            refine lv_iload hM.x hM.b dX1_roastForAMinute_88 (lv_at hl 0 rfl) ?_
            exact k_zret (b := false) hM hr hw (Nat.le_of_ble_eq_true rfl) (Nat.le_of_ble_eq_true rfl) hF dX1_roastForAMinute_90
          · rw [if_neg c4] at hF
            refine lv_aload_n hM.x hM.b dX1_roastForAMinute_84 rfl (lv_at hl 3 rfl) ?_
            refine k_cvp hw (k_runV [] [] hM hw (m_X2_turn l g κ6 _ (p1) ((kdp_X1_roastAt hk hop1))) (kd_lt (kdp_X1_roastAt hk hop1) (by decide)) (sh2 (kdp_X1_roastAt hk hop1)) rfl (k_gV u_ml_X1_128 u_im_X2_turn u_se_X2_turn u_ini_X2 u_co_X2_turn) (q_X2_turn) rfl rfl rfl ⟨Nat.le_of_ble_eq_true rfl, Nat.le_of_ble_eq_true rfl⟩ hl.1 rfl (Nat.le_of_ble_eq_true rfl) dX1_roastForAMinute_85 ⟨Nat.le_of_ble_eq_true rfl, Nat.le_of_ble_eq_true rfl⟩) (fun κ7 H locs hp hw => ?_)
            rw [hp] at hF
            try dsimp only at hF
            refine lv_iload hM.x hM.b dX1_roastForAMinute_88 (lv_at hl 0 rfl) ?_
            exact k_zret (b := false) hM hr hw (Nat.le_of_ble_eq_true rfl) (Nat.le_of_ble_eq_true rfl) hF dX1_roastForAMinute_90
        · rw [if_pos c3] at hF
          refine lv_iconst (v := 1) hM.x hM.b dX1_roastForAMinute_55 (by decide) ?_
          refine lv_goto (tgt := 60) hM.x hM.b dX1_roastForAMinute_56 (by decide) ?_
          refine lv_istore (lv' := [(5, .int (1)), (4, .int (r1)), (3, .ref (g.2.2 (p3))), (2, .ref (g.2.2 (p1))), (0, .ref (g.2.2 (k))), (1, .ref (g.2.2 (q)))]) hM.x hM.b dX1_roastForAMinute_60 hl (by decide) rfl (fun ls hl => ?_)
          refine lv_iload hM.x hM.b dX1_roastForAMinute_62 (lv_at hl 0 rfl) ?_
          refine lv_if_eq (tgt := 77) hM.x hM.b dX1_roastForAMinute_64 (by decide) (fun cz => absurd cz (by decide)) (fun _ => ?_)
          refine lv_aload_n hM.x hM.b dX1_roastForAMinute_67 rfl (lv_at hl 2 rfl) ?_
          refine lv_dup hM.x hM.b dX1_roastForAMinute_68 rfl ?_
          refine k_get0 2 hM hw (kdp_X1_fireAt hk hop3) (by decide) u_fl_X1_122 dX1_roastForAMinute_69 ?_
          refine lv_iconst (v := 1) hM.x hM.b dX1_roastForAMinute_72 (by decide) ?_
          refine lv_iadd hM.x hM.b dX1_roastForAMinute_73 ?_
          refine k_put0 2 hM hw (kdp_X1_fireAt hk hop3) (by decide) u_fl_X1_122 dX1_roastForAMinute_74 (fun H locs hw => ?_)
          obtain ⟨κ8, eκ8⟩ : ∃ z : Kp, up2 κ5 (p3) 2 (((κ5 (p3) 2) + (1))) = z := ⟨_, rfl⟩
          rw [eκ8] at hw
          rw [eκ8] at hF
          try dsimp only at hF
          refine lv_aload_n hM.x hM.b dX1_roastForAMinute_77 rfl (lv_at hl 5 rfl) ?_
          refine k_ci hw (k_runV [] [] hM hw (m_X3_countsToTurn l g κ8 _ (q) (hq)) (kd_lt hq (by decide)) (sh3 hq) rfl (k_gV u_ml_X1_125 u_im_X3_countsToTurn u_se_X3_countsToTurn u_ini_X3 u_co_X3_countsToTurn) (q_X3_countsToTurn) rfl rfl rfl ⟨Nat.le_of_ble_eq_true rfl, Nat.le_of_ble_eq_true rfl⟩ hl.1 rfl (Nat.le_of_ble_eq_true rfl) dX1_roastForAMinute_78 ⟨Nat.le_of_ble_eq_true rfl, Nat.le_of_ble_eq_true rfl⟩) (fun r6 κ9 H locs hp hw => ?_)
          simp only [hp] at hF
          refine lv_if_eq (tgt := 88) hM.x hM.b dX1_roastForAMinute_81 (by decide) (fun c5 => ?_) (fun c5 => ?_)
          · rw [if_pos c5] at hF
            refine lv_iload hM.x hM.b dX1_roastForAMinute_88 (lv_at hl 0 rfl) ?_
            exact k_zret (b := true) hM hr hw (Nat.le_of_ble_eq_true rfl) (Nat.le_of_ble_eq_true rfl) hF dX1_roastForAMinute_90
          · rw [if_neg c5] at hF
            refine lv_aload_n hM.x hM.b dX1_roastForAMinute_84 rfl (lv_at hl 3 rfl) ?_
            refine k_cvp hw (k_runV [] [] hM hw (m_X2_turn l g κ9 _ (p1) ((kdp_X1_roastAt hk hop1))) (kd_lt (kdp_X1_roastAt hk hop1) (by decide)) (sh2 (kdp_X1_roastAt hk hop1)) rfl (k_gV u_ml_X1_128 u_im_X2_turn u_se_X2_turn u_ini_X2 u_co_X2_turn) (q_X2_turn) rfl rfl rfl ⟨Nat.le_of_ble_eq_true rfl, Nat.le_of_ble_eq_true rfl⟩ hl.1 rfl (Nat.le_of_ble_eq_true rfl) dX1_roastForAMinute_85 ⟨Nat.le_of_ble_eq_true rfl, Nat.le_of_ble_eq_true rfl⟩) (fun κ10 H locs hp hw => ?_)
            rw [hp] at hF
            try dsimp only at hF
            refine lv_iload hM.x hM.b dX1_roastForAMinute_88 (lv_at hl 0 rfl) ?_
            exact k_zret (b := true) hM hr hw (Nat.le_of_ble_eq_true rfl) (Nat.le_of_ble_eq_true rfl) hF dX1_roastForAMinute_90
end
section
theorem zz_end : True := trivial
end
