section
-- ===== PART A: goes FIRST, ahead of the names: the tables' words, and 'selects' of the private methods out of them =====
/-- a private method of a class that the tables say can be made, by its rows of tables_1 -/
def lw_okq (q : MethodName × Nat) : Prop := (q.1.cls ≠ "java/lang/invoke/MethodHandle" ∧ q.1.cls ≠ "java/lang/invoke/VarHandle") ∧ Cond.instantiable q.1.cls q.2 ∈ tables_1 ∧ Cond.privateMethod q.1 ∈ tables_1 ∧ Cond.instanceMethod q.1 ∈ tables_1
theorem lw_p0 : lw_okq (⟨"MastFlags", "recordAndBringPennantDown", "()V"⟩, 7) := ⟨⟨by decide +kernel, by decide +kernel⟩, List.mem_of_getElem? (i := 14) (by decide +kernel), List.mem_of_getElem? (i := 223) (by decide +kernel), List.mem_of_getElem? (i := 224) (by decide +kernel)⟩
theorem lw_p1 : lw_okq (⟨"MastFlags$History", "slotAt", "(I)LMastFlags$State;"⟩, 3) := ⟨⟨by decide +kernel, by decide +kernel⟩, List.mem_of_getElem? (i := 130) (by decide +kernel), List.mem_of_getElem? (i := 231) (by decide +kernel), List.mem_of_getElem? (i := 232) (by decide +kernel)⟩
theorem lw_p2 : lw_okq (⟨"MastFlags", "read", "(I)LMastFlags$Reading;"⟩, 7) := ⟨⟨by decide +kernel, by decide +kernel⟩, List.mem_of_getElem? (i := 14) (by decide +kernel), List.mem_of_getElem? (i := 359) (by decide +kernel), List.mem_of_getElem? (i := 360) (by decide +kernel)⟩
theorem lw_p3 : lw_okq (⟨"MastFlags", "readingOf", "(I)LMastFlags$Reading;"⟩, 7) := ⟨⟨by decide +kernel, by decide +kernel⟩, List.mem_of_getElem? (i := 14) (by decide +kernel), List.mem_of_getElem? (i := 363) (by decide +kernel), List.mem_of_getElem? (i := 364) (by decide +kernel)⟩
theorem lw_p4 : lw_okq (⟨"MastFlags", "isKnownAsItself", "(I)Z"⟩, 7) := ⟨⟨by decide +kernel, by decide +kernel⟩, List.mem_of_getElem? (i := 14) (by decide +kernel), List.mem_of_getElem? (i := 549) (by decide +kernel), List.mem_of_getElem? (i := 550) (by decide +kernel)⟩
theorem lw_p5 : lw_okq (⟨"MastFlags$Text", "accept", "(I)Z"⟩, 5) := ⟨⟨by decide +kernel, by decide +kernel⟩, List.mem_of_getElem? (i := 149) (by decide +kernel), List.mem_of_getElem? (i := 583) (by decide +kernel), List.mem_of_getElem? (i := 584) (by decide +kernel)⟩
theorem lw_p6 : lw_okq (⟨"MastFlags$Text", "acceptHalyard", "(I)Z"⟩, 5) := ⟨⟨by decide +kernel, by decide +kernel⟩, List.mem_of_getElem? (i := 149) (by decide +kernel), List.mem_of_getElem? (i := 587) (by decide +kernel), List.mem_of_getElem? (i := 588) (by decide +kernel)⟩
theorem lw_p7 : lw_okq (⟨"MastFlags$Text", "acceptFlag", "(I)Z"⟩, 5) := ⟨⟨by decide +kernel, by decide +kernel⟩, List.mem_of_getElem? (i := 149) (by decide +kernel), List.mem_of_getElem? (i := 591) (by decide +kernel), List.mem_of_getElem? (i := 592) (by decide +kernel)⟩
theorem lw_p8 : lw_okq (⟨"MastFlags$Text", "acceptMore", "(I)Z"⟩, 5) := ⟨⟨by decide +kernel, by decide +kernel⟩, List.mem_of_getElem? (i := 149) (by decide +kernel), List.mem_of_getElem? (i := 597) (by decide +kernel), List.mem_of_getElem? (i := 598) (by decide +kernel)⟩
theorem lw_p9 : lw_okq (⟨"MastFlags$Text", "acceptPennant", "(I)Z"⟩, 5) := ⟨⟨by decide +kernel, by decide +kernel⟩, List.mem_of_getElem? (i := 149) (by decide +kernel), List.mem_of_getElem? (i := 601) (by decide +kernel), List.mem_of_getElem? (i := 602) (by decide +kernel)⟩
theorem lw_p10 : lw_okq (⟨"MastFlagsModel", "allSigns", "()I"⟩, 11) := ⟨⟨by decide +kernel, by decide +kernel⟩, List.mem_of_getElem? (i := 631) (by decide +kernel), List.mem_of_getElem? (i := 680) (by decide +kernel), List.mem_of_getElem? (i := 681) (by decide +kernel)⟩
theorem lw_p11 : lw_okq (⟨"MastFlagsModel", "many", "(I)I"⟩, 11) := ⟨⟨by decide +kernel, by decide +kernel⟩, List.mem_of_getElem? (i := 631) (by decide +kernel), List.mem_of_getElem? (i := 684) (by decide +kernel), List.mem_of_getElem? (i := 685) (by decide +kernel)⟩
theorem lw_p12 : lw_okq (⟨"MastFlagsModel", "record", "()V"⟩, 11) := ⟨⟨by decide +kernel, by decide +kernel⟩, List.mem_of_getElem? (i := 631) (by decide +kernel), List.mem_of_getElem? (i := 692) (by decide +kernel), List.mem_of_getElem? (i := 693) (by decide +kernel)⟩
theorem lw_p13 : lw_okq (⟨"MastFlagsModel", "recordAndDown", "()V"⟩, 11) := ⟨⟨by decide +kernel, by decide +kernel⟩, List.mem_of_getElem? (i := 631) (by decide +kernel), List.mem_of_getElem? (i := 706) (by decide +kernel), List.mem_of_getElem? (i := 707) (by decide +kernel)⟩
theorem lw_p14 : lw_okq (⟨"MastFlagsModel", "ofFlag", "(II)I"⟩, 11) := ⟨⟨by decide +kernel, by decide +kernel⟩, List.mem_of_getElem? (i := 631) (by decide +kernel), List.mem_of_getElem? (i := 710) (by decide +kernel), List.mem_of_getElem? (i := 711) (by decide +kernel)⟩
theorem lw_p15 : lw_okq (⟨"MastFlagsModel", "mostUsed", "()I"⟩, 11) := ⟨⟨by decide +kernel, by decide +kernel⟩, List.mem_of_getElem? (i := 631) (by decide +kernel), List.mem_of_getElem? (i := 718) (by decide +kernel), List.mem_of_getElem? (i := 719) (by decide +kernel)⟩
def lw_privs_1 : List (MethodName × Nat) := [(⟨"MastFlags", "recordAndBringPennantDown", "()V"⟩, 7), (⟨"MastFlags$History", "slotAt", "(I)LMastFlags$State;"⟩, 3), (⟨"MastFlags", "read", "(I)LMastFlags$Reading;"⟩, 7), (⟨"MastFlags", "readingOf", "(I)LMastFlags$Reading;"⟩, 7), (⟨"MastFlags", "isKnownAsItself", "(I)Z"⟩, 7), (⟨"MastFlags$Text", "accept", "(I)Z"⟩, 5), (⟨"MastFlags$Text", "acceptHalyard", "(I)Z"⟩, 5), (⟨"MastFlags$Text", "acceptFlag", "(I)Z"⟩, 5), (⟨"MastFlags$Text", "acceptMore", "(I)Z"⟩, 5), (⟨"MastFlags$Text", "acceptPennant", "(I)Z"⟩, 5), (⟨"MastFlagsModel", "allSigns", "()I"⟩, 11), (⟨"MastFlagsModel", "many", "(I)I"⟩, 11), (⟨"MastFlagsModel", "record", "()V"⟩, 11), (⟨"MastFlagsModel", "recordAndDown", "()V"⟩, 11), (⟨"MastFlagsModel", "ofFlag", "(II)I"⟩, 11), (⟨"MastFlagsModel", "mostUsed", "()I"⟩, 11)]
theorem lw_r1 : ∀ q ∈ lw_privs_1, lw_okq q := List.forall_mem_cons.mpr ⟨lw_p0, List.forall_mem_cons.mpr ⟨lw_p1, List.forall_mem_cons.mpr ⟨lw_p2, List.forall_mem_cons.mpr ⟨lw_p3, List.forall_mem_cons.mpr ⟨lw_p4, List.forall_mem_cons.mpr ⟨lw_p5, List.forall_mem_cons.mpr ⟨lw_p6, List.forall_mem_cons.mpr ⟨lw_p7, List.forall_mem_cons.mpr ⟨lw_p8, List.forall_mem_cons.mpr ⟨lw_p9, List.forall_mem_cons.mpr ⟨lw_p10, List.forall_mem_cons.mpr ⟨lw_p11, List.forall_mem_cons.mpr ⟨lw_p12, List.forall_mem_cons.mpr ⟨lw_p13, List.forall_mem_cons.mpr ⟨lw_p14, List.forall_mem_cons.mpr ⟨lw_p15, fun _ h => absurd h List.not_mem_nil⟩⟩⟩⟩⟩⟩⟩⟩⟩⟩⟩⟩⟩⟩⟩⟩
theorem lw_p16 : lw_okq (⟨"MastFlagsModel", "used", "(I)I"⟩, 11) := ⟨⟨by decide +kernel, by decide +kernel⟩, List.mem_of_getElem? (i := 631) (by decide +kernel), List.mem_of_getElem? (i := 722) (by decide +kernel), List.mem_of_getElem? (i := 723) (by decide +kernel)⟩
theorem lw_p17 : lw_okq (⟨"MastFlagsModel", "signOn", "(II)I"⟩, 11) := ⟨⟨by decide +kernel, by decide +kernel⟩, List.mem_of_getElem? (i := 631) (by decide +kernel), List.mem_of_getElem? (i := 726) (by decide +kernel), List.mem_of_getElem? (i := 727) (by decide +kernel)⟩
theorem lw_p18 : lw_okq (⟨"MastFlagsModel", "flagWith", "(II)I"⟩, 11) := ⟨⟨by decide +kernel, by decide +kernel⟩, List.mem_of_getElem? (i := 631) (by decide +kernel), List.mem_of_getElem? (i := 741) (by decide +kernel), List.mem_of_getElem? (i := 742) (by decide +kernel)⟩
theorem lw_p19 : lw_okq (⟨"MastFlagsModel", "putOn", "(II)V"⟩, 11) := ⟨⟨by decide +kernel, by decide +kernel⟩, List.mem_of_getElem? (i := 631) (by decide +kernel), List.mem_of_getElem? (i := 755) (by decide +kernel), List.mem_of_getElem? (i := 756) (by decide +kernel)⟩
theorem lw_p20 : lw_okq (⟨"MastFlagsModel", "swaps", "(II)V"⟩, 11) := ⟨⟨by decide +kernel, by decide +kernel⟩, List.mem_of_getElem? (i := 631) (by decide +kernel), List.mem_of_getElem? (i := 767) (by decide +kernel), List.mem_of_getElem? (i := 768) (by decide +kernel)⟩
theorem lw_p21 : lw_okq (⟨"MastFlagsModel", "hoists", "()I"⟩, 11) := ⟨⟨by decide +kernel, by decide +kernel⟩, List.mem_of_getElem? (i := 631) (by decide +kernel), List.mem_of_getElem? (i := 775) (by decide +kernel), List.mem_of_getElem? (i := 776) (by decide +kernel)⟩
theorem lw_p22 : lw_okq (⟨"MastFlagsModel", "logs", "()V"⟩, 11) := ⟨⟨by decide +kernel, by decide +kernel⟩, List.mem_of_getElem? (i := 631) (by decide +kernel), List.mem_of_getElem? (i := 779) (by decide +kernel), List.mem_of_getElem? (i := 780) (by decide +kernel)⟩
theorem lw_p23 : lw_okq (⟨"MastFlagsModel", "wordAt", "(II)I"⟩, 11) := ⟨⟨by decide +kernel, by decide +kernel⟩, List.mem_of_getElem? (i := 631) (by decide +kernel), List.mem_of_getElem? (i := 783) (by decide +kernel), List.mem_of_getElem? (i := 784) (by decide +kernel)⟩
theorem lw_p24 : lw_okq (⟨"MastFlagsModel", "read", "(II)I"⟩, 11) := ⟨⟨by decide +kernel, by decide +kernel⟩, List.mem_of_getElem? (i := 631) (by decide +kernel), List.mem_of_getElem? (i := 787) (by decide +kernel), List.mem_of_getElem? (i := 788) (by decide +kernel)⟩
theorem lw_p25 : lw_okq (⟨"MastFlagsModel", "flagOn", "(II)I"⟩, 11) := ⟨⟨by decide +kernel, by decide +kernel⟩, List.mem_of_getElem? (i := 631) (by decide +kernel), List.mem_of_getElem? (i := 791) (by decide +kernel), List.mem_of_getElem? (i := 792) (by decide +kernel)⟩
theorem lw_p26 : lw_okq (⟨"MastFlagsModel", "taken", "(II)I"⟩, 11) := ⟨⟨by decide +kernel, by decide +kernel⟩, List.mem_of_getElem? (i := 631) (by decide +kernel), List.mem_of_getElem? (i := 795) (by decide +kernel), List.mem_of_getElem? (i := 796) (by decide +kernel)⟩
theorem lw_p27 : lw_okq (⟨"MastFlagsModel", "droops", "(I)Z"⟩, 11) := ⟨⟨by decide +kernel, by decide +kernel⟩, List.mem_of_getElem? (i := 631) (by decide +kernel), List.mem_of_getElem? (i := 799) (by decide +kernel), List.mem_of_getElem? (i := 800) (by decide +kernel)⟩
theorem lw_p28 : lw_okq (⟨"MastFlagsModel", "codeOf", "(I)I"⟩, 11) := ⟨⟨by decide +kernel, by decide +kernel⟩, List.mem_of_getElem? (i := 631) (by decide +kernel), List.mem_of_getElem? (i := 803) (by decide +kernel), List.mem_of_getElem? (i := 804) (by decide +kernel)⟩
theorem lw_p29 : lw_okq (⟨"MastFlagsModel", "wordOf", "(I)I"⟩, 11) := ⟨⟨by decide +kernel, by decide +kernel⟩, List.mem_of_getElem? (i := 631) (by decide +kernel), List.mem_of_getElem? (i := 807) (by decide +kernel), List.mem_of_getElem? (i := 808) (by decide +kernel)⟩
theorem lw_p30 : lw_okq (⟨"MastFlagsModel", "makeEmpty", "()V"⟩, 11) := ⟨⟨by decide +kernel, by decide +kernel⟩, List.mem_of_getElem? (i := 631) (by decide +kernel), List.mem_of_getElem? (i := 811) (by decide +kernel), List.mem_of_getElem? (i := 812) (by decide +kernel)⟩
theorem lw_p31 : lw_okq (⟨"MastFlagsModel", "isPlace", "(II)Z"⟩, 11) := ⟨⟨by decide +kernel, by decide +kernel⟩, List.mem_of_getElem? (i := 631) (by decide +kernel), List.mem_of_getElem? (i := 819) (by decide +kernel), List.mem_of_getElem? (i := 820) (by decide +kernel)⟩
def lw_privs_2 : List (MethodName × Nat) := [(⟨"MastFlagsModel", "used", "(I)I"⟩, 11), (⟨"MastFlagsModel", "signOn", "(II)I"⟩, 11), (⟨"MastFlagsModel", "flagWith", "(II)I"⟩, 11), (⟨"MastFlagsModel", "putOn", "(II)V"⟩, 11), (⟨"MastFlagsModel", "swaps", "(II)V"⟩, 11), (⟨"MastFlagsModel", "hoists", "()I"⟩, 11), (⟨"MastFlagsModel", "logs", "()V"⟩, 11), (⟨"MastFlagsModel", "wordAt", "(II)I"⟩, 11), (⟨"MastFlagsModel", "read", "(II)I"⟩, 11), (⟨"MastFlagsModel", "flagOn", "(II)I"⟩, 11), (⟨"MastFlagsModel", "taken", "(II)I"⟩, 11), (⟨"MastFlagsModel", "droops", "(I)Z"⟩, 11), (⟨"MastFlagsModel", "codeOf", "(I)I"⟩, 11), (⟨"MastFlagsModel", "wordOf", "(I)I"⟩, 11), (⟨"MastFlagsModel", "makeEmpty", "()V"⟩, 11), (⟨"MastFlagsModel", "isPlace", "(II)Z"⟩, 11)]
theorem lw_r2 : ∀ q ∈ lw_privs_2, lw_okq q := List.forall_mem_cons.mpr ⟨lw_p16, List.forall_mem_cons.mpr ⟨lw_p17, List.forall_mem_cons.mpr ⟨lw_p18, List.forall_mem_cons.mpr ⟨lw_p19, List.forall_mem_cons.mpr ⟨lw_p20, List.forall_mem_cons.mpr ⟨lw_p21, List.forall_mem_cons.mpr ⟨lw_p22, List.forall_mem_cons.mpr ⟨lw_p23, List.forall_mem_cons.mpr ⟨lw_p24, List.forall_mem_cons.mpr ⟨lw_p25, List.forall_mem_cons.mpr ⟨lw_p26, List.forall_mem_cons.mpr ⟨lw_p27, List.forall_mem_cons.mpr ⟨lw_p28, List.forall_mem_cons.mpr ⟨lw_p29, List.forall_mem_cons.mpr ⟨lw_p30, List.forall_mem_cons.mpr ⟨lw_p31, fun _ h => absurd h List.not_mem_nil⟩⟩⟩⟩⟩⟩⟩⟩⟩⟩⟩⟩⟩⟩⟩⟩
theorem lw_p32 : lw_okq (⟨"MastFlagsModel", "isEntry", "(I)Z"⟩, 11) := ⟨⟨by decide +kernel, by decide +kernel⟩, List.mem_of_getElem? (i := 631) (by decide +kernel), List.mem_of_getElem? (i := 834) (by decide +kernel), List.mem_of_getElem? (i := 835) (by decide +kernel)⟩
theorem lw_p33 : lw_okq (⟨"MastFlagsModel", "knownBy", "(I)I"⟩, 11) := ⟨⟨by decide +kernel, by decide +kernel⟩, List.mem_of_getElem? (i := 631) (by decide +kernel), List.mem_of_getElem? (i := 854) (by decide +kernel), List.mem_of_getElem? (i := 855) (by decide +kernel)⟩
theorem lw_p34 : lw_okq (⟨"MastFlagsModel", "knowsAll", "(I)Z"⟩, 11) := ⟨⟨by decide +kernel, by decide +kernel⟩, List.mem_of_getElem? (i := 631) (by decide +kernel), List.mem_of_getElem? (i := 862) (by decide +kernel), List.mem_of_getElem? (i := 863) (by decide +kernel)⟩
theorem lw_p35 : lw_okq (⟨"MastFlagsModel", "isKnownAs", "(I)Z"⟩, 11) := ⟨⟨by decide +kernel, by decide +kernel⟩, List.mem_of_getElem? (i := 631) (by decide +kernel), List.mem_of_getElem? (i := 899) (by decide +kernel), List.mem_of_getElem? (i := 900) (by decide +kernel)⟩
theorem lw_p36 : lw_okq (⟨"MastFlagsModel", "readHoist", "()V"⟩, 11) := ⟨⟨by decide +kernel, by decide +kernel⟩, List.mem_of_getElem? (i := 631) (by decide +kernel), List.mem_of_getElem? (i := 918) (by decide +kernel), List.mem_of_getElem? (i := 919) (by decide +kernel)⟩
theorem lw_p37 : lw_okq (⟨"MastFlagsModel", "figure", "(II)I"⟩, 11) := ⟨⟨by decide +kernel, by decide +kernel⟩, List.mem_of_getElem? (i := 631) (by decide +kernel), List.mem_of_getElem? (i := 922) (by decide +kernel), List.mem_of_getElem? (i := 923) (by decide +kernel)⟩
theorem lw_p38 : lw_okq (⟨"MastFlagsModel", "letter", "()I"⟩, 11) := ⟨⟨by decide +kernel, by decide +kernel⟩, List.mem_of_getElem? (i := 631) (by decide +kernel), List.mem_of_getElem? (i := 926) (by decide +kernel), List.mem_of_getElem? (i := 927) (by decide +kernel)⟩
theorem lw_p39 : lw_okq (⟨"MastFlagsModel", "wants", "(Z)V"⟩, 11) := ⟨⟨by decide +kernel, by decide +kernel⟩, List.mem_of_getElem? (i := 631) (by decide +kernel), List.mem_of_getElem? (i := 930) (by decide +kernel), List.mem_of_getElem? (i := 931) (by decide +kernel)⟩
theorem lw_p40 : lw_okq (⟨"MastFlagsModel", "readSign", "(I)V"⟩, 11) := ⟨⟨by decide +kernel, by decide +kernel⟩, List.mem_of_getElem? (i := 631) (by decide +kernel), List.mem_of_getElem? (i := 934) (by decide +kernel), List.mem_of_getElem? (i := 935) (by decide +kernel)⟩
theorem lw_p41 : lw_okq (⟨"MastFlagsModel", "isSignNext", "(I)Z"⟩, 11) := ⟨⟨by decide +kernel, by decide +kernel⟩, List.mem_of_getElem? (i := 631) (by decide +kernel), List.mem_of_getElem? (i := 938) (by decide +kernel), List.mem_of_getElem? (i := 939) (by decide +kernel)⟩
theorem lw_p42 : lw_okq (⟨"MastFlagsModel", "neededOf", "(I)I"⟩, 11) := ⟨⟨by decide +kernel, by decide +kernel⟩, List.mem_of_getElem? (i := 631) (by decide +kernel), List.mem_of_getElem? (i := 947) (by decide +kernel), List.mem_of_getElem? (i := 948) (by decide +kernel)⟩
def lw_privs_3 : List (MethodName × Nat) := [(⟨"MastFlagsModel", "isEntry", "(I)Z"⟩, 11), (⟨"MastFlagsModel", "knownBy", "(I)I"⟩, 11), (⟨"MastFlagsModel", "knowsAll", "(I)Z"⟩, 11), (⟨"MastFlagsModel", "isKnownAs", "(I)Z"⟩, 11), (⟨"MastFlagsModel", "readHoist", "()V"⟩, 11), (⟨"MastFlagsModel", "figure", "(II)I"⟩, 11), (⟨"MastFlagsModel", "letter", "()I"⟩, 11), (⟨"MastFlagsModel", "wants", "(Z)V"⟩, 11), (⟨"MastFlagsModel", "readSign", "(I)V"⟩, 11), (⟨"MastFlagsModel", "isSignNext", "(I)Z"⟩, 11), (⟨"MastFlagsModel", "neededOf", "(I)I"⟩, 11)]
theorem lw_r3 : ∀ q ∈ lw_privs_3, lw_okq q := List.forall_mem_cons.mpr ⟨lw_p32, List.forall_mem_cons.mpr ⟨lw_p33, List.forall_mem_cons.mpr ⟨lw_p34, List.forall_mem_cons.mpr ⟨lw_p35, List.forall_mem_cons.mpr ⟨lw_p36, List.forall_mem_cons.mpr ⟨lw_p37, List.forall_mem_cons.mpr ⟨lw_p38, List.forall_mem_cons.mpr ⟨lw_p39, List.forall_mem_cons.mpr ⟨lw_p40, List.forall_mem_cons.mpr ⟨lw_p41, List.forall_mem_cons.mpr ⟨lw_p42, fun _ h => absurd h List.not_mem_nil⟩⟩⟩⟩⟩⟩⟩⟩⟩⟩⟩
def lw_privs : List (MethodName × Nat) := lw_privs_1 ++ (lw_privs_2 ++ (lw_privs_3))
def lw_tbl : List Cond := k2_sels lw_privs ++ tables_1
theorem lw_privs_ok : ∀ q ∈ lw_privs, lw_okq q := by
  show ∀ q ∈ lw_privs_1 ++ (lw_privs_2 ++ (lw_privs_3)), lw_okq q
  exact List.forall_mem_append.mpr ⟨lw_r1, List.forall_mem_append.mpr ⟨lw_r2, lw_r3⟩⟩
def RX0 : String := "MastFlags$Book"
def TX0 : u_T := fun k => match k with
  | 0 => ("MastFlags$Book", "flags", "[I", true)
  | 1 => ("MastFlags$Book", "words", "[I", true)
  | _ => ("MastFlags$Book", "size", "I", false)
def tyX0 : Nat → FieldType := fun k => match k with
  | 0 => .array .int
  | 1 => .array .int
  | _ => .int
abbrev wsX00 : List Cond := u_ws RX0 TX0 3
theorem nmX0 : ∀ a, a < 3 → ∀ b, b < 3 → a ≠ b → (TX0 a).2.1 ≠ (TX0 b).2.1 := by decide +kernel
theorem tyX0_ok : ∀ k, k < 3 → parseFieldDescriptor (TX0 k).2.2.1 = some (tyX0 k) := by decide +kernel
abbrev cX0_init : ByteArray := prog_2_method_1_code
def yX0_init : MethodName := ⟨RX0, "<init>", "()V"⟩
abbrev cX0_copyFrom : ByteArray := prog_2_method_2_code
def yX0_copyFrom : MethodName := ⟨RX0, "copyFrom", "(LMastFlags$Book;)V"⟩
abbrev cX0_size : ByteArray := prog_2_method_3_code
def yX0_size : MethodName := ⟨RX0, "size", "()I"⟩
abbrev cX0_flagsAt : ByteArray := prog_2_method_4_code
def yX0_flagsAt : MethodName := ⟨RX0, "flagsAt", "(I)I"⟩
abbrev cX0_wordAt : ByteArray := prog_2_method_5_code
def yX0_wordAt : MethodName := ⟨RX0, "wordAt", "(I)I"⟩
abbrev cX0_add : ByteArray := prog_2_method_6_code
def yX0_add : MethodName := ⟨RX0, "add", "(II)V"⟩
abbrev cX0_remove : ByteArray := prog_2_method_7_code
def yX0_remove : MethodName := ⟨RX0, "remove", "(I)I"⟩
abbrev cX0_wordFor : ByteArray := prog_2_method_8_code
def yX0_wordFor : MethodName := ⟨RX0, "wordFor", "(I)I"⟩
def RX1 : String := "MastFlags$FlagLocker"
def TX1 : u_T := fun k => match k with
  | 0 => ("MastFlags$FlagLocker", "hoistColours", "[I", true)
  | 1 => ("MastFlags$FlagLocker", "flyColours", "[I", true)
  | _ => ("MastFlags$FlagLocker", "weights", "[I", true)
def tyX1 : Nat → FieldType := fun k => match k with
  | 0 => .array .int
  | 1 => .array .int
  | _ => .array .int
abbrev wsX10 : List Cond := u_ws RX1 TX1 3
theorem nmX1 : ∀ a, a < 3 → ∀ b, b < 3 → a ≠ b → (TX1 a).2.1 ≠ (TX1 b).2.1 := by decide +kernel
theorem tyX1_ok : ∀ k, k < 3 → parseFieldDescriptor (TX1 k).2.2.1 = some (tyX1 k) := by decide +kernel
abbrev cX1_init : ByteArray := prog_3_method_1_code
def yX1_init : MethodName := ⟨RX1, "<init>", "()V"⟩
abbrev cX1_copyFrom : ByteArray := prog_3_method_2_code
def yX1_copyFrom : MethodName := ⟨RX1, "copyFrom", "(LMastFlags$FlagLocker;)V"⟩
abbrev cX1_change : ByteArray := prog_3_method_3_code
def yX1_change : MethodName := ⟨RX1, "change", "(IIII)V"⟩
abbrev cX1_atHoist : ByteArray := prog_3_method_4_code
def yX1_atHoist : MethodName := ⟨RX1, "atHoist", "(I)I"⟩
abbrev cX1_atFly : ByteArray := prog_3_method_5_code
def yX1_atFly : MethodName := ⟨RX1, "atFly", "(I)I"⟩
abbrev cX1_weightOf : ByteArray := prog_3_method_6_code
def yX1_weightOf : MethodName := ⟨RX1, "weightOf", "(I)I"⟩
abbrev cX1_countWith : ByteArray := prog_3_method_7_code
def yX1_countWith : MethodName := ⟨RX1, "countWith", "(II)I"⟩
abbrev cX1_firstWith : ByteArray := prog_3_method_8_code
def yX1_firstWith : MethodName := ⟨RX1, "firstWith", "(II)I"⟩
abbrev cX1_takenFor : ByteArray := prog_3_method_9_code
def yX1_takenFor : MethodName := ⟨RX1, "takenFor", "(IZI)I"⟩
def RX2 : String := "MastFlags$History"
def TX2 : u_T := fun k => match k with
  | 0 => ("MastFlags$History", "states", "[LMastFlags$State;", true)
  | 1 => ("MastFlags$History", "next", "I", false)
  | _ => ("MastFlags$History", "size", "I", false)
def tyX2 : Nat → FieldType := fun k => match k with
  | 0 => .array (.object "MastFlags$State")
  | 1 => .int
  | _ => .int
abbrev wsX20 : List Cond := u_ws RX2 TX2 3
theorem nmX2 : ∀ a, a < 3 → ∀ b, b < 3 → a ≠ b → (TX2 a).2.1 ≠ (TX2 b).2.1 := by decide +kernel
theorem tyX2_ok : ∀ k, k < 3 → parseFieldDescriptor (TX2 k).2.2.1 = some (tyX2 k) := by decide +kernel
abbrev cX2_init : ByteArray := prog_4_method_1_code
def yX2_init : MethodName := ⟨RX2, "<init>", "()V"⟩
abbrev cX2_size : ByteArray := prog_4_method_2_code
def yX2_size : MethodName := ⟨RX2, "size", "()I"⟩
abbrev cX2_record : ByteArray := prog_4_method_3_code
def yX2_record : MethodName := ⟨RX2, "record", "(LMastFlags$State;)V"⟩
abbrev cX2_takeBack : ByteArray := prog_4_method_4_code
def yX2_takeBack : MethodName := ⟨RX2, "takeBack", "(LMastFlags$State;)V"⟩
abbrev cX2_slotAt : ByteArray := prog_4_method_5_code
def yX2_slotAt : MethodName := ⟨RX2, "slotAt", "(I)LMastFlags$State;"⟩
def RX3 : String := "MastFlags$Hoists"
def TX3 : u_T := fun k => match k with
  | 0 => ("MastFlags$Hoists", "signs", "[I", true)
  | _ => ("MastFlags$Hoists", "sizes", "[I", true)
def tyX3 : Nat → FieldType := fun k => match k with
  | 0 => .array .int
  | _ => .array .int
abbrev wsX30 : List Cond := u_ws RX3 TX3 2
theorem nmX3 : ∀ a, a < 2 → ∀ b, b < 2 → a ≠ b → (TX3 a).2.1 ≠ (TX3 b).2.1 := by decide +kernel
theorem tyX3_ok : ∀ k, k < 2 → parseFieldDescriptor (TX3 k).2.2.1 = some (tyX3 k) := by decide +kernel
abbrev cX3_init : ByteArray := prog_5_method_1_code
def yX3_init : MethodName := ⟨RX3, "<init>", "()V"⟩
abbrev cX3_copyFrom : ByteArray := prog_5_method_2_code
def yX3_copyFrom : MethodName := ⟨RX3, "copyFrom", "(LMastFlags$Hoists;)V"⟩
abbrev cX3_clear : ByteArray := prog_5_method_3_code
def yX3_clear : MethodName := ⟨RX3, "clear", "()V"⟩
abbrev cX3_sizeOf : ByteArray := prog_5_method_4_code
def yX3_sizeOf : MethodName := ⟨RX3, "sizeOf", "(I)I"⟩
abbrev cX3_has : ByteArray := prog_5_method_5_code
def yX3_has : MethodName := ⟨RX3, "has", "(II)Z"⟩
abbrev cX3_signAt : ByteArray := prog_5_method_6_code
def yX3_signAt : MethodName := ⟨RX3, "signAt", "(II)I"⟩
abbrev cX3_flagAt : ByteArray := prog_5_method_7_code
def yX3_flagAt : MethodName := ⟨RX3, "flagAt", "(II)I"⟩
abbrev cX3_add : ByteArray := prog_5_method_8_code
def yX3_add : MethodName := ⟨RX3, "add", "(II)V"⟩
abbrev cX3_removeLowest : ByteArray := prog_5_method_9_code
def yX3_removeLowest : MethodName := ⟨RX3, "removeLowest", "(I)I"⟩
abbrev cX3_swap : ByteArray := prog_5_method_10_code
def yX3_swap : MethodName := ⟨RX3, "swap", "(II)V"⟩
abbrev cX3_countAll : ByteArray := prog_5_method_11_code
def yX3_countAll : MethodName := ⟨RX3, "countAll", "()I"⟩
abbrev cX3_countNotEmpty : ByteArray := prog_5_method_12_code
def yX3_countNotEmpty : MethodName := ⟨RX3, "countNotEmpty", "()I"⟩
abbrev cX3_countOf : ByteArray := prog_5_method_13_code
def yX3_countOf : MethodName := ⟨RX3, "countOf", "(I)I"⟩
abbrev cX3_mostOfAKind : ByteArray := prog_5_method_14_code
def yX3_mostOfAKind : MethodName := ⟨RX3, "mostOfAKind", "()I"⟩
def RX4 : String := "MastFlags$MessageLog"
def TX4 : u_T := fun k => match k with
  | 0 => ("MastFlags$MessageLog", "words", "[I", true)
  | 1 => ("MastFlags$MessageLog", "lengths", "[I", true)
  | 2 => ("MastFlags$MessageLog", "size", "I", false)
  | _ => ("MastFlags$MessageLog", "all", "I", false)
def tyX4 : Nat → FieldType := fun k => match k with
  | 0 => .array .int
  | 1 => .array .int
  | 2 => .int
  | _ => .int
abbrev wsX40 : List Cond := u_ws RX4 TX4 4
theorem nmX4 : ∀ a, a < 4 → ∀ b, b < 4 → a ≠ b → (TX4 a).2.1 ≠ (TX4 b).2.1 := by decide +kernel
theorem tyX4_ok : ∀ k, k < 4 → parseFieldDescriptor (TX4 k).2.2.1 = some (tyX4 k) := by decide +kernel
abbrev cX4_init : ByteArray := prog_6_method_1_code
def yX4_init : MethodName := ⟨RX4, "<init>", "()V"⟩
abbrev cX4_copyFrom : ByteArray := prog_6_method_2_code
def yX4_copyFrom : MethodName := ⟨RX4, "copyFrom", "(LMastFlags$MessageLog;)V"⟩
abbrev cX4_size : ByteArray := prog_6_method_3_code
def yX4_size : MethodName := ⟨RX4, "size", "()I"⟩
abbrev cX4_countAll : ByteArray := prog_6_method_4_code
def yX4_countAll : MethodName := ⟨RX4, "countAll", "()I"⟩
abbrev cX4_wordsOf : ByteArray := prog_6_method_5_code
def yX4_wordsOf : MethodName := ⟨RX4, "wordsOf", "(I)I"⟩
abbrev cX4_wordAt : ByteArray := prog_6_method_6_code
def yX4_wordAt : MethodName := ⟨RX4, "wordAt", "(II)I"⟩
abbrev cX4_add : ByteArray := prog_6_method_7_code
def yX4_add : MethodName := ⟨RX4, "add", "([II)V"⟩
def RX5 : String := "MastFlags$Reading"
def TX5 : u_T := fun k => match k with
  | 0 => ("MastFlags$Reading", "side", "I", true)
  | 1 => ("MastFlags$Reading", "wordsByHalyard", "[I", true)
  | 2 => ("MastFlags$Reading", "message", "[I", true)
  | _ => ("MastFlags$Reading", "size", "I", false)
def tyX5 : Nat → FieldType := fun k => match k with
  | 0 => .int
  | 1 => .array .int
  | 2 => .array .int
  | _ => .int
abbrev wsX50 : List Cond := u_ws RX5 TX5 4
theorem nmX5 : ∀ a, a < 4 → ∀ b, b < 4 → a ≠ b → (TX5 a).2.1 ≠ (TX5 b).2.1 := by decide +kernel
theorem tyX5_ok : ∀ k, k < 4 → parseFieldDescriptor (TX5 k).2.2.1 = some (tyX5 k) := by decide +kernel
abbrev cX5_init : ByteArray := prog_7_method_1_code
def yX5_init : MethodName := ⟨RX5, "<init>", "(I)V"⟩
abbrev cX5_look : ByteArray := prog_7_method_2_code
def yX5_look : MethodName := ⟨RX5, "look", "(LMastFlags$State;II)V"⟩
abbrev cX5_arrange : ByteArray := prog_7_method_3_code
def yX5_arrange : MethodName := ⟨RX5, "arrange", "(II)V"⟩
abbrev cX5_size : ByteArray := prog_7_method_4_code
def yX5_size : MethodName := ⟨RX5, "size", "()I"⟩
abbrev cX5_wordAt : ByteArray := prog_7_method_5_code
def yX5_wordAt : MethodName := ⟨RX5, "wordAt", "(I)I"⟩
abbrev cX5_countKnown : ByteArray := prog_7_method_6_code
def yX5_countKnown : MethodName := ⟨RX5, "countKnown", "()I"⟩
abbrev cX5_knowsAll : ByteArray := prog_7_method_7_code
def yX5_knowsAll : MethodName := ⟨RX5, "knowsAll", "()Z"⟩
abbrev cX5_agreesWith : ByteArray := prog_7_method_8_code
def yX5_agreesWith : MethodName := ⟨RX5, "agreesWith", "(LMastFlags$Reading;)Z"⟩
def RX6 : String := "MastFlags$State"
def TX6 : u_T := fun k => match k with
  | 0 => ("MastFlags$State", "flags", "LMastFlags$FlagLocker;", true)
  | 1 => ("MastFlags$State", "hoists", "LMastFlags$Hoists;", true)
  | 2 => ("MastFlags$State", "book", "LMastFlags$Book;", true)
  | 3 => ("MastFlags$State", "log", "LMastFlags$MessageLog;", true)
  | 4 => ("MastFlags$State", "stock", "I", false)
  | 5 => ("MastFlags$State", "strength", "I", false)
  | 6 => ("MastFlags$State", "from", "I", false)
  | 7 => ("MastFlags$State", "shipSide", "I", false)
  | _ => ("MastFlags$State", "pennant", "I", false)
def tyX6 : Nat → FieldType := fun k => match k with
  | 0 => .object "MastFlags$FlagLocker"
  | 1 => .object "MastFlags$Hoists"
  | 2 => .object "MastFlags$Book"
  | 3 => .object "MastFlags$MessageLog"
  | 4 => .int
  | 5 => .int
  | 6 => .int
  | 7 => .int
  | _ => .int
abbrev wsX60 : List Cond := u_ws RX6 TX6 9
theorem nmX6 : ∀ a, a < 9 → ∀ b, b < 9 → a ≠ b → (TX6 a).2.1 ≠ (TX6 b).2.1 := by decide +kernel
theorem tyX6_ok : ∀ k, k < 9 → parseFieldDescriptor (TX6 k).2.2.1 = some (tyX6 k) := by decide +kernel
abbrev cX6_init : ByteArray := prog_8_method_1_code
def yX6_init : MethodName := ⟨RX6, "<init>", "()V"⟩
abbrev cX6_copyFrom : ByteArray := prog_8_method_2_code
def yX6_copyFrom : MethodName := ⟨RX6, "copyFrom", "(LMastFlags$State;)V"⟩
abbrev cX6_readHoist : ByteArray := prog_8_method_3_code
def yX6_readHoist : MethodName := ⟨RX6, "readHoist", "(IZI)I"⟩
def RX7 : String := "MastFlags$Text"
def TX7 : u_T := fun k => match k with
  | 0 => ("MastFlags$Text", "characters", "[I", true)
  | 1 => ("MastFlags$Text", "size", "I", false)
  | 2 => ("MastFlags$Text", "hoists", "LMastFlags$Hoists;", true)
  | 3 => ("MastFlags$Text", "halyard", "I", false)
  | _ => ("MastFlags$Text", "want", "I", false)
def tyX7 : Nat → FieldType := fun k => match k with
  | 0 => .array .int
  | 1 => .int
  | 2 => .object "MastFlags$Hoists"
  | 3 => .int
  | _ => .int
abbrev wsX70 : List Cond := u_ws RX7 TX7 5
theorem nmX7 : ∀ a, a < 5 → ∀ b, b < 5 → a ≠ b → (TX7 a).2.1 ≠ (TX7 b).2.1 := by decide +kernel
theorem tyX7_ok : ∀ k, k < 5 → parseFieldDescriptor (TX7 k).2.2.1 = some (tyX7 k) := by decide +kernel
abbrev cX7_init : ByteArray := prog_9_method_1_code
def yX7_init : MethodName := ⟨RX7, "<init>", "()V"⟩
abbrev cX7_size : ByteArray := prog_9_method_2_code
def yX7_size : MethodName := ⟨RX7, "size", "()I"⟩
abbrev cX7_add : ByteArray := prog_9_method_3_code
def yX7_add : MethodName := ⟨RX7, "add", "(I)V"⟩
abbrev cX7_clear : ByteArray := prog_9_method_4_code
def yX7_clear : MethodName := ⟨RX7, "clear", "()V"⟩
abbrev cX7_parse : ByteArray := prog_9_method_5_code
def yX7_parse : MethodName := ⟨RX7, "parse", "()I"⟩
abbrev cX7_accept : ByteArray := prog_9_method_6_code
def yX7_accept : MethodName := ⟨RX7, "accept", "(I)Z"⟩
abbrev cX7_acceptHalyard : ByteArray := prog_9_method_7_code
def yX7_acceptHalyard : MethodName := ⟨RX7, "acceptHalyard", "(I)Z"⟩
abbrev cX7_acceptFlag : ByteArray := prog_9_method_8_code
def yX7_acceptFlag : MethodName := ⟨RX7, "acceptFlag", "(I)Z"⟩
abbrev cX7_acceptMore : ByteArray := prog_9_method_9_code
def yX7_acceptMore : MethodName := ⟨RX7, "acceptMore", "(I)Z"⟩
abbrev cX7_acceptPennant : ByteArray := prog_9_method_10_code
def yX7_acceptPennant : MethodName := ⟨RX7, "acceptPennant", "(I)Z"⟩
def RX8 : String := "MastFlags"
def TX8 : u_T := fun k => match k with
  | 0 => ("MastFlags", "now", "LMastFlags$State;", true)
  | 1 => ("MastFlags", "saved", "LMastFlags$State;", true)
  | 2 => ("MastFlags", "isSaved", "Z", false)
  | 3 => ("MastFlags", "history", "LMastFlags$History;", true)
  | 4 => ("MastFlags", "text", "LMastFlags$Text;", true)
  | 5 => ("MastFlags", "front", "LMastFlags$Reading;", true)
  | _ => ("MastFlags", "behind", "LMastFlags$Reading;", true)
def tyX8 : Nat → FieldType := fun k => match k with
  | 0 => .object "MastFlags$State"
  | 1 => .object "MastFlags$State"
  | 2 => .boolean
  | 3 => .object "MastFlags$History"
  | 4 => .object "MastFlags$Text"
  | 5 => .object "MastFlags$Reading"
  | _ => .object "MastFlags$Reading"
abbrev wsX80 : List Cond := u_ws RX8 TX8 7
theorem nmX8 : ∀ a, a < 7 → ∀ b, b < 7 → a ≠ b → (TX8 a).2.1 ≠ (TX8 b).2.1 := by decide +kernel
theorem tyX8_ok : ∀ k, k < 7 → parseFieldDescriptor (TX8 k).2.2.1 = some (tyX8 k) := by decide +kernel
abbrev cX8_init : ByteArray := prog_1_method_1_code
def yX8_init : MethodName := ⟨RX8, "<init>", "()V"⟩
abbrev cX8_paint : ByteArray := prog_1_method_2_code
def yX8_paint : MethodName := ⟨RX8, "paint", "(IIII)I"⟩
abbrev cX8_setStock : ByteArray := prog_1_method_3_code
def yX8_setStock : MethodName := ⟨RX8, "setStock", "(I)I"⟩
abbrev cX8_setWind : ByteArray := prog_1_method_4_code
def yX8_setWind : MethodName := ⟨RX8, "setWind", "(II)I"⟩
abbrev cX8_flag : ByteArray := prog_1_method_5_code
def yX8_flag : MethodName := ⟨RX8, "flag", "(II)I"⟩
abbrev cX8_bend : ByteArray := prog_1_method_6_code
def yX8_bend : MethodName := ⟨RX8, "bend", "(II)I"⟩
abbrev cX8_unbend : ByteArray := prog_1_method_7_code
def yX8_unbend : MethodName := ⟨RX8, "unbend", "(I)I"⟩
abbrev cX8_exchange : ByteArray := prog_1_method_8_code
def yX8_exchange : MethodName := ⟨RX8, "exchange", "(II)I"⟩
abbrev cX8_lower : ByteArray := prog_1_method_9_code
def yX8_lower : MethodName := ⟨RX8, "lower", "()I"⟩
abbrev cX8_sign : ByteArray := prog_1_method_10_code
def yX8_sign : MethodName := ⟨RX8, "sign", "(III)I"⟩
abbrev cX8_enter : ByteArray := prog_1_method_11_code
def yX8_enter : MethodName := ⟨RX8, "enter", "(II)I"⟩
abbrev cX8_strike : ByteArray := prog_1_method_12_code
def yX8_strike : MethodName := ⟨RX8, "strike", "(I)I"⟩
abbrev cX8_entry : ByteArray := prog_1_method_13_code
def yX8_entry : MethodName := ⟨RX8, "entry", "(II)I"⟩
abbrev cX8_seen : ByteArray := prog_1_method_14_code
def yX8_seen : MethodName := ⟨RX8, "seen", "(III)I"⟩
abbrev cX8_word : ByteArray := prog_1_method_15_code
def yX8_word : MethodName := ⟨RX8, "word", "(II)I"⟩
abbrev cX8_known : ByteArray := prog_1_method_16_code
def yX8_known : MethodName := ⟨RX8, "known", "(I)I"⟩
abbrev cX8_isSame : ByteArray := prog_1_method_17_code
def yX8_isSame : MethodName := ⟨RX8, "isSame", "()I"⟩
abbrev cX8_sail : ByteArray := prog_1_method_18_code
def yX8_sail : MethodName := ⟨RX8, "sail", "(I)I"⟩
abbrev cX8_answer : ByteArray := prog_1_method_19_code
def yX8_answer : MethodName := ⟨RX8, "answer", "()I"⟩
abbrev cX8_logged : ByteArray := prog_1_method_20_code
def yX8_logged : MethodName := ⟨RX8, "logged", "(II)I"⟩
abbrev cX8_total : ByteArray := prog_1_method_21_code
def yX8_total : MethodName := ⟨RX8, "total", "(I)I"⟩
abbrev cX8_leastWind : ByteArray := prog_1_method_22_code
def yX8_leastWind : MethodName := ⟨RX8, "leastWind", "(I)I"⟩
abbrev cX8_ifTurned : ByteArray := prog_1_method_23_code
def yX8_ifTurned : MethodName := ⟨RX8, "ifTurned", "(I)I"⟩
abbrev cX8_mendingExchange : ByteArray := prog_1_method_24_code
def yX8_mendingExchange : MethodName := ⟨RX8, "mendingExchange", "()I"⟩
abbrev cX8_bestEntry : ByteArray := prog_1_method_25_code
def yX8_bestEntry : MethodName := ⟨RX8, "bestEntry", "(I)I"⟩
abbrev cX8_append : ByteArray := prog_1_method_26_code
def yX8_append : MethodName := ⟨RX8, "append", "(I)I"⟩
abbrev cX8_clearText : ByteArray := prog_1_method_27_code
def yX8_clearText : MethodName := ⟨RX8, "clearText", "()I"⟩
abbrev cX8_errorPosition : ByteArray := prog_1_method_28_code
def yX8_errorPosition : MethodName := ⟨RX8, "errorPosition", "()I"⟩
abbrev cX8_hoist : ByteArray := prog_1_method_29_code
def yX8_hoist : MethodName := ⟨RX8, "hoist", "()I"⟩
abbrev cX8_undo : ByteArray := prog_1_method_30_code
def yX8_undo : MethodName := ⟨RX8, "undo", "()I"⟩
abbrev cX8_save : ByteArray := prog_1_method_31_code
def yX8_save : MethodName := ⟨RX8, "save", "()I"⟩
abbrev cX8_restore : ByteArray := prog_1_method_32_code
def yX8_restore : MethodName := ⟨RX8, "restore", "()I"⟩
abbrev cX8_recordAndBringPennantDown : ByteArray := prog_1_method_33_code
def yX8_recordAndBringPennantDown : MethodName := ⟨RX8, "recordAndBringPennantDown", "()V"⟩
abbrev cX8_readingOf : ByteArray := prog_1_method_34_code
def yX8_readingOf : MethodName := ⟨RX8, "readingOf", "(I)LMastFlags$Reading;"⟩
abbrev cX8_read : ByteArray := prog_1_method_35_code
def yX8_read : MethodName := ⟨RX8, "read", "(I)LMastFlags$Reading;"⟩
abbrev cX8_isKnownAsItself : ByteArray := prog_1_method_36_code
def yX8_isKnownAsItself : MethodName := ⟨RX8, "isKnownAsItself", "(I)Z"⟩
abbrev cX8_isBelow : ByteArray := prog_1_method_37_code
def yX8_isBelow : MethodName := ⟨RX8, "isBelow", "(II)Z"⟩
abbrev cX8_isHoistFirst : ByteArray := prog_1_method_38_code
def yX8_isHoistFirst : MethodName := ⟨RX8, "isHoistFirst", "(II)Z"⟩
abbrev cX8_isSign : ByteArray := prog_1_method_39_code
def yX8_isSign : MethodName := ⟨RX8, "isSign", "(I)Z"⟩
abbrev cX8_isFlagsNumber : ByteArray := prog_1_method_40_code
def yX8_isFlagsNumber : MethodName := ⟨RX8, "isFlagsNumber", "(I)Z"⟩
abbrev cX8_lengthOf : ByteArray := prog_1_method_41_code
def yX8_lengthOf : MethodName := ⟨RX8, "lengthOf", "(I)I"⟩
def RX9 : String := "MastFlagsModel"
def TX9 : u_T := fun k => match k with
  | 0 => ("MastFlagsModel", "z", "[I", true)
  | 1 => ("MastFlagsModel", "past", "[I", true)
  | 2 => ("MastFlagsModel", "pastMany", "I", false)
  | 3 => ("MastFlagsModel", "kept", "[I", true)
  | 4 => ("MastFlagsModel", "isKept", "Z", false)
  | 5 => ("MastFlagsModel", "buffer", "[C", true)
  | 6 => ("MastFlagsModel", "typed", "I", false)
  | 7 => ("MastFlagsModel", "told", "[I", true)
  | 8 => ("MastFlagsModel", "last", "I", false)
  | 9 => ("MastFlagsModel", "spot", "I", false)
  | _ => ("MastFlagsModel", "wrong", "I", false)
def tyX9 : Nat → FieldType := fun k => match k with
  | 0 => .array .int
  | 1 => .array .int
  | 2 => .int
  | 3 => .array .int
  | 4 => .boolean
  | 5 => .array .char
  | 6 => .int
  | 7 => .array .int
  | 8 => .int
  | 9 => .int
  | _ => .int
abbrev wsX90 : List Cond := u_ws RX9 TX9 11
theorem nmX9 : ∀ a, a < 11 → ∀ b, b < 11 → a ≠ b → (TX9 a).2.1 ≠ (TX9 b).2.1 := by decide +kernel
theorem tyX9_ok : ∀ k, k < 11 → parseFieldDescriptor (TX9 k).2.2.1 = some (tyX9 k) := by decide +kernel
abbrev cX9_init : ByteArray := prog_11_method_1_code
def yX9_init : MethodName := ⟨RX9, "<init>", "()V"⟩
abbrev cX9_in : ByteArray := prog_11_method_2_code
def yX9_in : MethodName := ⟨RX9, "in", "(III)Z"⟩
abbrev cX9_isFlag : ByteArray := prog_11_method_3_code
def yX9_isFlag : MethodName := ⟨RX9, "isFlag", "(I)Z"⟩
abbrev cX9_isHalyard : ByteArray := prog_11_method_4_code
def yX9_isHalyard : MethodName := ⟨RX9, "isHalyard", "(I)Z"⟩
abbrev cX9_isSide : ByteArray := prog_11_method_5_code
def yX9_isSide : MethodName := ⟨RX9, "isSide", "(I)Z"⟩
abbrev cX9_ofFlag : ByteArray := prog_11_method_6_code
def yX9_ofFlag : MethodName := ⟨RX9, "ofFlag", "(II)I"⟩
abbrev cX9_many : ByteArray := prog_11_method_7_code
def yX9_many : MethodName := ⟨RX9, "many", "(I)I"⟩
abbrev cX9_signOn : ByteArray := prog_11_method_8_code
def yX9_signOn : MethodName := ⟨RX9, "signOn", "(II)I"⟩
abbrev cX9_record : ByteArray := prog_11_method_9_code
def yX9_record : MethodName := ⟨RX9, "record", "()V"⟩
abbrev cX9_recordAndDown : ByteArray := prog_11_method_10_code
def yX9_recordAndDown : MethodName := ⟨RX9, "recordAndDown", "()V"⟩
abbrev cX9_undo : ByteArray := prog_11_method_11_code
def yX9_undo : MethodName := ⟨RX9, "undo", "()I"⟩
abbrev cX9_allSigns : ByteArray := prog_11_method_12_code
def yX9_allSigns : MethodName := ⟨RX9, "allSigns", "()I"⟩
abbrev cX9_save : ByteArray := prog_11_method_13_code
def yX9_save : MethodName := ⟨RX9, "save", "()I"⟩
abbrev cX9_restore : ByteArray := prog_11_method_14_code
def yX9_restore : MethodName := ⟨RX9, "restore", "()I"⟩
abbrev cX9_flagWith : ByteArray := prog_11_method_15_code
def yX9_flagWith : MethodName := ⟨RX9, "flagWith", "(II)I"⟩
abbrev cX9_paint : ByteArray := prog_11_method_16_code
def yX9_paint : MethodName := ⟨RX9, "paint", "(IIII)I"⟩
abbrev cX9_used : ByteArray := prog_11_method_17_code
def yX9_used : MethodName := ⟨RX9, "used", "(I)I"⟩
abbrev cX9_mostUsed : ByteArray := prog_11_method_18_code
def yX9_mostUsed : MethodName := ⟨RX9, "mostUsed", "()I"⟩
abbrev cX9_setStock : ByteArray := prog_11_method_19_code
def yX9_setStock : MethodName := ⟨RX9, "setStock", "(I)I"⟩
abbrev cX9_setWind : ByteArray := prog_11_method_20_code
def yX9_setWind : MethodName := ⟨RX9, "setWind", "(II)I"⟩
abbrev cX9_flag : ByteArray := prog_11_method_21_code
def yX9_flag : MethodName := ⟨RX9, "flag", "(II)I"⟩
abbrev cX9_isSign : ByteArray := prog_11_method_22_code
def yX9_isSign : MethodName := ⟨RX9, "isSign", "(I)Z"⟩
abbrev cX9_putOn : ByteArray := prog_11_method_23_code
def yX9_putOn : MethodName := ⟨RX9, "putOn", "(II)V"⟩
abbrev cX9_bend : ByteArray := prog_11_method_24_code
def yX9_bend : MethodName := ⟨RX9, "bend", "(II)I"⟩
abbrev cX9_unbend : ByteArray := prog_11_method_25_code
def yX9_unbend : MethodName := ⟨RX9, "unbend", "(I)I"⟩
abbrev cX9_swaps : ByteArray := prog_11_method_26_code
def yX9_swaps : MethodName := ⟨RX9, "swaps", "(II)V"⟩
abbrev cX9_exchange : ByteArray := prog_11_method_27_code
def yX9_exchange : MethodName := ⟨RX9, "exchange", "(II)I"⟩
abbrev cX9_hoists : ByteArray := prog_11_method_28_code
def yX9_hoists : MethodName := ⟨RX9, "hoists", "()I"⟩
abbrev cX9_makeEmpty : ByteArray := prog_11_method_29_code
def yX9_makeEmpty : MethodName := ⟨RX9, "makeEmpty", "()V"⟩
abbrev cX9_logs : ByteArray := prog_11_method_30_code
def yX9_logs : MethodName := ⟨RX9, "logs", "()V"⟩
abbrev cX9_lower : ByteArray := prog_11_method_31_code
def yX9_lower : MethodName := ⟨RX9, "lower", "()I"⟩
abbrev cX9_isPlace : ByteArray := prog_11_method_32_code
def yX9_isPlace : MethodName := ⟨RX9, "isPlace", "(II)Z"⟩
abbrev cX9_flagOn : ByteArray := prog_11_method_33_code
def yX9_flagOn : MethodName := ⟨RX9, "flagOn", "(II)I"⟩
abbrev cX9_droops : ByteArray := prog_11_method_34_code
def yX9_droops : MethodName := ⟨RX9, "droops", "(I)Z"⟩
abbrev cX9_sign : ByteArray := prog_11_method_35_code
def yX9_sign : MethodName := ⟨RX9, "sign", "(III)I"⟩
abbrev cX9_isCode : ByteArray := prog_11_method_36_code
def yX9_isCode : MethodName := ⟨RX9, "isCode", "(I)Z"⟩
abbrev cX9_codeOf : ByteArray := prog_11_method_37_code
def yX9_codeOf : MethodName := ⟨RX9, "codeOf", "(I)I"⟩
abbrev cX9_wordOf : ByteArray := prog_11_method_38_code
def yX9_wordOf : MethodName := ⟨RX9, "wordOf", "(I)I"⟩
abbrev cX9_enter : ByteArray := prog_11_method_39_code
def yX9_enter : MethodName := ⟨RX9, "enter", "(II)I"⟩
abbrev cX9_isEntry : ByteArray := prog_11_method_40_code
def yX9_isEntry : MethodName := ⟨RX9, "isEntry", "(I)Z"⟩
abbrev cX9_strike : ByteArray := prog_11_method_41_code
def yX9_strike : MethodName := ⟨RX9, "strike", "(I)I"⟩
abbrev cX9_entry : ByteArray := prog_11_method_42_code
def yX9_entry : MethodName := ⟨RX9, "entry", "(II)I"⟩
abbrev cX9_taken : ByteArray := prog_11_method_43_code
def yX9_taken : MethodName := ⟨RX9, "taken", "(II)I"⟩
abbrev cX9_seen : ByteArray := prog_11_method_44_code
def yX9_seen : MethodName := ⟨RX9, "seen", "(III)I"⟩
abbrev cX9_read : ByteArray := prog_11_method_45_code
def yX9_read : MethodName := ⟨RX9, "read", "(II)I"⟩
abbrev cX9_wordAt : ByteArray := prog_11_method_46_code
def yX9_wordAt : MethodName := ⟨RX9, "wordAt", "(II)I"⟩
abbrev cX9_word : ByteArray := prog_11_method_47_code
def yX9_word : MethodName := ⟨RX9, "word", "(II)I"⟩
abbrev cX9_knownBy : ByteArray := prog_11_method_48_code
def yX9_knownBy : MethodName := ⟨RX9, "knownBy", "(I)I"⟩
abbrev cX9_known : ByteArray := prog_11_method_49_code
def yX9_known : MethodName := ⟨RX9, "known", "(I)I"⟩
abbrev cX9_knowsAll : ByteArray := prog_11_method_50_code
def yX9_knowsAll : MethodName := ⟨RX9, "knowsAll", "(I)Z"⟩
abbrev cX9_isSame : ByteArray := prog_11_method_51_code
def yX9_isSame : MethodName := ⟨RX9, "isSame", "()I"⟩
abbrev cX9_sail : ByteArray := prog_11_method_52_code
def yX9_sail : MethodName := ⟨RX9, "sail", "(I)I"⟩
abbrev cX9_answer : ByteArray := prog_11_method_53_code
def yX9_answer : MethodName := ⟨RX9, "answer", "()I"⟩
abbrev cX9_logged : ByteArray := prog_11_method_54_code
def yX9_logged : MethodName := ⟨RX9, "logged", "(II)I"⟩
abbrev cX9_total : ByteArray := prog_11_method_55_code
def yX9_total : MethodName := ⟨RX9, "total", "(I)I"⟩
abbrev cX9_leastWind : ByteArray := prog_11_method_56_code
def yX9_leastWind : MethodName := ⟨RX9, "leastWind", "(I)I"⟩
abbrev cX9_ifTurned : ByteArray := prog_11_method_57_code
def yX9_ifTurned : MethodName := ⟨RX9, "ifTurned", "(I)I"⟩
abbrev cX9_mendingExchange : ByteArray := prog_11_method_58_code
def yX9_mendingExchange : MethodName := ⟨RX9, "mendingExchange", "()I"⟩
abbrev cX9_lengthOf : ByteArray := prog_11_method_59_code
def yX9_lengthOf : MethodName := ⟨RX9, "lengthOf", "(I)I"⟩
abbrev cX9_isKnownAs : ByteArray := prog_11_method_60_code
def yX9_isKnownAs : MethodName := ⟨RX9, "isKnownAs", "(I)Z"⟩
abbrev cX9_bestEntry : ByteArray := prog_11_method_61_code
def yX9_bestEntry : MethodName := ⟨RX9, "bestEntry", "(I)I"⟩
abbrev cX9_append : ByteArray := prog_11_method_62_code
def yX9_append : MethodName := ⟨RX9, "append", "(I)I"⟩
abbrev cX9_clearText : ByteArray := prog_11_method_63_code
def yX9_clearText : MethodName := ⟨RX9, "clearText", "()I"⟩
abbrev cX9_letter : ByteArray := prog_11_method_64_code
def yX9_letter : MethodName := ⟨RX9, "letter", "()I"⟩
abbrev cX9_wants : ByteArray := prog_11_method_65_code
def yX9_wants : MethodName := ⟨RX9, "wants", "(Z)V"⟩
abbrev cX9_figure : ByteArray := prog_11_method_66_code
def yX9_figure : MethodName := ⟨RX9, "figure", "(II)I"⟩
abbrev cX9_isSignNext : ByteArray := prog_11_method_67_code
def yX9_isSignNext : MethodName := ⟨RX9, "isSignNext", "(I)Z"⟩
abbrev cX9_readSign : ByteArray := prog_11_method_68_code
def yX9_readSign : MethodName := ⟨RX9, "readSign", "(I)V"⟩
abbrev cX9_readHoist : ByteArray := prog_11_method_69_code
def yX9_readHoist : MethodName := ⟨RX9, "readHoist", "()V"⟩
abbrev cX9_errorPosition : ByteArray := prog_11_method_70_code
def yX9_errorPosition : MethodName := ⟨RX9, "errorPosition", "()I"⟩
abbrev cX9_neededOf : ByteArray := prog_11_method_71_code
def yX9_neededOf : MethodName := ⟨RX9, "neededOf", "(I)I"⟩
abbrev cX9_hoist : ByteArray := prog_11_method_72_code
def yX9_hoist : MethodName := ⟨RX9, "hoist", "()I"⟩
def RJ9 : String := "java/lang/Math"
def TJ9 : u_T := fun k => match k with
  | _ => ("", "", "", false)
def tyJ9 : Nat → FieldType := fun k => match k with
  | _ => .int
abbrev wsJ90 : List Cond := u_ws RJ9 TJ9 0
theorem nmJ9 : ∀ a, a < 0 → ∀ b, b < 0 → a ≠ b → (TJ9 a).2.1 ≠ (TJ9 b).2.1 := by decide +kernel
theorem tyJ9_ok : ∀ k, k < 0 → parseFieldDescriptor (TJ9 k).2.2.1 = some (tyJ9 k) := by decide +kernel
abbrev cJ9_max_7cf53 : ByteArray := prog_12_method_65_code
def yJ9_max_7cf53 : MethodName := ⟨RJ9, "max", "(II)I"⟩
abbrev cJ9_min_7cf53 : ByteArray := prog_12_method_69_code
def yJ9_min_7cf53 : MethodName := ⟨RJ9, "min", "(II)I"⟩
def RJ10 : String := "java/lang/System"
def TJ10 : u_T := fun k => match k with
  | _ => ("", "", "", false)
def tyJ10 : Nat → FieldType := fun k => match k with
  | _ => .int
abbrev wsJ100 : List Cond := u_ws RJ10 TJ10 0
theorem nmJ10 : ∀ a, a < 0 → ∀ b, b < 0 → a ≠ b → (TJ10 a).2.1 ≠ (TJ10 b).2.1 := by decide +kernel
theorem tyJ10_ok : ∀ k, k < 0 → parseFieldDescriptor (TJ10 k).2.2.1 = some (tyJ10 k) := by decide +kernel
def RL : String := "MastFlagsLaw"
abbrev cL_law : ByteArray := code
def yL_law : MethodName := ⟨RL, "law", "([I)Z"⟩
abbrev vwCl : List vw_C := [(RX0, TX0, 3), (RX1, TX1, 3), (RX2, TX2, 3), (RX3, TX3, 2), (RX4, TX4, 4), (RX5, TX5, 4), (RX6, TX6, 9), (RX7, TX7, 5), (RX8, TX8, 7), (RX9, TX9, 11)]
def bw : List Cond := lw_tbl.filter goodWord
theorem bw_of {w : Cond} (i : Nat) (h : lw_tbl[i]? = some w) (g : goodWord w = true) : w ∈ bw := List.mem_filter.mpr ⟨List.mem_of_getElem? h, g⟩
theorem bw_good : bw.all goodWord = true := List.all_eq_true.mpr fun w h => (List.mem_filter.mp h).2
theorem bw_in {w : Cond} (h : w ∈ bw) : w ∈ lw_tbl := (List.mem_filter.mp h).1
theorem gb {w w2 : Cond} (h : w2 ∈ bw) : GoodIn (w :: bw) (w2 :: bw) := by
  intro x hx
  have hb : x ∈ bw := by
    rcases List.mem_cons.mp hx with e | e
    · rw [e]; exact h
    · exact e
  exact ⟨List.mem_cons_of_mem _ hb, good_of_word (List.all_eq_true.mp bw_good x hb)⟩
theorem gbl {w2 : Cond} (h : w2 ∈ bw) : GoodIn bw (w2 :: bw) := by
  intro x hx
  have hb : x ∈ bw := by
    rcases List.mem_cons.mp hx with e | e
    · rw [e]; exact h
    · exact e
  exact ⟨hb, good_of_word (List.all_eq_true.mp bw_good x hb)⟩
theorem ib0 : ∀ w ∈ u_ws RX0 TX0 3, w ∈ bw := by decide +kernel
theorem ib1 : ∀ w ∈ u_ws RX1 TX1 3, w ∈ bw := by decide +kernel
theorem ib2 : ∀ w ∈ u_ws RX2 TX2 3, w ∈ bw := by decide +kernel
theorem ib3 : ∀ w ∈ u_ws RX3 TX3 2, w ∈ bw := by decide +kernel
theorem ib4 : ∀ w ∈ u_ws RX4 TX4 4, w ∈ bw := by decide +kernel
theorem ib5 : ∀ w ∈ u_ws RX5 TX5 4, w ∈ bw := by decide +kernel
theorem ib6 : ∀ w ∈ u_ws RX6 TX6 9, w ∈ bw := by decide +kernel
theorem ib7 : ∀ w ∈ u_ws RX7 TX7 5, w ∈ bw := by decide +kernel
theorem ib8 : ∀ w ∈ u_ws RX8 TX8 7, w ∈ bw := by decide +kernel
theorem ib9 : ∀ w ∈ u_ws RX9 TX9 11, w ∈ bw := by decide +kernel
theorem in_L : Cond.initialized RL ∈ bw := bw_of 43 (by decide +kernel) (by decide +kernel)
theorem in_X8 : Cond.initialized RX8 ∈ bw := bw_of 44 (by decide +kernel) (by decide +kernel)
theorem in_X6 : Cond.initialized RX6 ∈ bw := bw_of 45 (by decide +kernel) (by decide +kernel)
theorem in_X1 : Cond.initialized RX1 ∈ bw := bw_of 46 (by decide +kernel) (by decide +kernel)
theorem in_X3 : Cond.initialized RX3 ∈ bw := bw_of 47 (by decide +kernel) (by decide +kernel)
theorem in_X0 : Cond.initialized RX0 ∈ bw := bw_of 48 (by decide +kernel) (by decide +kernel)
theorem in_X4 : Cond.initialized RX4 ∈ bw := bw_of 49 (by decide +kernel) (by decide +kernel)
theorem in_X2 : Cond.initialized RX2 ∈ bw := bw_of 50 (by decide +kernel) (by decide +kernel)
theorem in_X7 : Cond.initialized RX7 ∈ bw := bw_of 51 (by decide +kernel) (by decide +kernel)
theorem in_X5 : Cond.initialized RX5 ∈ bw := bw_of 52 (by decide +kernel) (by decide +kernel)
theorem in_X9 : Cond.initialized RX9 ∈ bw := bw_of 53 (by decide +kernel) (by decide +kernel)
theorem in_J10 : Cond.initialized RJ10 ∈ bw := bw_of 54 (by decide +kernel) (by decide +kernel)
theorem in_J9 : Cond.initialized RJ9 ∈ bw := bw_of 55 (by decide +kernel) (by decide +kernel)
theorem cl_L_7 : Cond.classLink RL 7 RX8 ∈ bw := bw_of 56 (by decide +kernel) (by decide +kernel)
theorem ib_X8 : Cond.instantiable RX8 7 ∈ bw := bw_of 57 (by decide +kernel) (by decide +kernel)
theorem ml_L_9 : Cond.methodLink RL 9 yX8_init ∈ bw := bw_of 58 (by decide +kernel) (by decide +kernel)
theorem im_X8_init : Cond.instanceMethod yX8_init ∈ bw := bw_of 59 (by decide +kernel) (by decide +kernel)
theorem cw_X8_init : Cond.code yX8_init cX8_init 1 none ∈ bw := bw_of 60 (by decide +kernel) (by decide +kernel)
theorem ml_X8_1 : Cond.methodLink RX8 1 objectInit ∈ bw := bw_of 61 (by decide +kernel) (by decide +kernel)
theorem im_objectInit : Cond.instanceMethod objectInit ∈ bw := bw_of 62 (by decide +kernel) (by decide +kernel)
theorem cl_X8_7 : Cond.classLink RX8 7 RX6 ∈ bw := bw_of 64 (by decide +kernel) (by decide +kernel)
theorem ib_X6 : Cond.instantiable RX6 9 ∈ bw := bw_of 65 (by decide +kernel) (by decide +kernel)
theorem ml_X8_9 : Cond.methodLink RX8 9 yX6_init ∈ bw := bw_of 66 (by decide +kernel) (by decide +kernel)
theorem im_X6_init : Cond.instanceMethod yX6_init ∈ bw := bw_of 67 (by decide +kernel) (by decide +kernel)
theorem cw_X6_init : Cond.code yX6_init cX6_init 1 none ∈ bw := bw_of 68 (by decide +kernel) (by decide +kernel)
theorem ml_X6_3 : Cond.methodLink RX6 3 objectInit ∈ bw := bw_of 69 (by decide +kernel) (by decide +kernel)
theorem cl_X6_9 : Cond.classLink RX6 9 RX1 ∈ bw := bw_of 70 (by decide +kernel) (by decide +kernel)
theorem ib_X1 : Cond.instantiable RX1 3 ∈ bw := bw_of 71 (by decide +kernel) (by decide +kernel)
theorem ml_X6_11 : Cond.methodLink RX6 11 yX1_init ∈ bw := bw_of 72 (by decide +kernel) (by decide +kernel)
theorem im_X1_init : Cond.instanceMethod yX1_init ∈ bw := bw_of 73 (by decide +kernel) (by decide +kernel)
theorem cw_X1_init : Cond.code yX1_init cX1_init 2 none ∈ bw := bw_of 74 (by decide +kernel) (by decide +kernel)
theorem ml_X1_3 : Cond.methodLink RX1 3 objectInit ∈ bw := bw_of 75 (by decide +kernel) (by decide +kernel)
theorem fl_X1_9 : Cond.fieldLink RX1 9 "MastFlags$FlagLocker" "hoistColours" "[I" ∈ bw := bw_of 76 (by decide +kernel) (by decide +kernel)
theorem fl_X1_15 : Cond.fieldLink RX1 15 "MastFlags$FlagLocker" "flyColours" "[I" ∈ bw := bw_of 77 (by decide +kernel) (by decide +kernel)
theorem fl_X1_18 : Cond.fieldLink RX1 18 "MastFlags$FlagLocker" "weights" "[I" ∈ bw := bw_of 78 (by decide +kernel) (by decide +kernel)
theorem ac_int : Cond.arrayClass .int ∈ bw := bw_of 86 (by decide +kernel) (by decide +kernel)
theorem cl_X6_18 : Cond.classLink RX6 18 RX3 ∈ bw := bw_of 87 (by decide +kernel) (by decide +kernel)
theorem ib_X3 : Cond.instantiable RX3 2 ∈ bw := bw_of 88 (by decide +kernel) (by decide +kernel)
theorem im_X3_init : Cond.instanceMethod yX3_init ∈ bw := bw_of 90 (by decide +kernel) (by decide +kernel)
theorem cw_X3_init : Cond.code yX3_init cX3_init 1 none ∈ bw := bw_of 91 (by decide +kernel) (by decide +kernel)
theorem ml_X3_3 : Cond.methodLink RX3 3 objectInit ∈ bw := bw_of 92 (by decide +kernel) (by decide +kernel)
theorem fl_X3_9 : Cond.fieldLink RX3 9 "MastFlags$Hoists" "signs" "[I" ∈ bw := bw_of 93 (by decide +kernel) (by decide +kernel)
theorem fl_X3_15 : Cond.fieldLink RX3 15 "MastFlags$Hoists" "sizes" "[I" ∈ bw := bw_of 94 (by decide +kernel) (by decide +kernel)
theorem cl_X6_25 : Cond.classLink RX6 25 RX0 ∈ bw := bw_of 100 (by decide +kernel) (by decide +kernel)
theorem ib_X0 : Cond.instantiable RX0 3 ∈ bw := bw_of 101 (by decide +kernel) (by decide +kernel)
theorem im_X0_init : Cond.instanceMethod yX0_init ∈ bw := bw_of 103 (by decide +kernel) (by decide +kernel)
theorem cw_X0_init : Cond.code yX0_init cX0_init 1 none ∈ bw := bw_of 104 (by decide +kernel) (by decide +kernel)
theorem ml_X0_3 : Cond.methodLink RX0 3 objectInit ∈ bw := bw_of 105 (by decide +kernel) (by decide +kernel)
theorem fl_X0_9 : Cond.fieldLink RX0 9 "MastFlags$Book" "flags" "[I" ∈ bw := bw_of 106 (by decide +kernel) (by decide +kernel)
theorem fl_X0_15 : Cond.fieldLink RX0 15 "MastFlags$Book" "words" "[I" ∈ bw := bw_of 107 (by decide +kernel) (by decide +kernel)
theorem fl_X0_18 : Cond.fieldLink RX0 18 "MastFlags$Book" "size" "I" ∈ bw := bw_of 108 (by decide +kernel) (by decide +kernel)
theorem cl_X6_32 : Cond.classLink RX6 32 RX4 ∈ bw := bw_of 116 (by decide +kernel) (by decide +kernel)
theorem ib_X4 : Cond.instantiable RX4 4 ∈ bw := bw_of 117 (by decide +kernel) (by decide +kernel)
theorem im_X4_init : Cond.instanceMethod yX4_init ∈ bw := bw_of 119 (by decide +kernel) (by decide +kernel)
theorem cw_X4_init : Cond.code yX4_init cX4_init 1 none ∈ bw := bw_of 120 (by decide +kernel) (by decide +kernel)
theorem ml_X4_3 : Cond.methodLink RX4 3 objectInit ∈ bw := bw_of 121 (by decide +kernel) (by decide +kernel)
theorem fl_X4_9 : Cond.fieldLink RX4 9 "MastFlags$MessageLog" "words" "[I" ∈ bw := bw_of 122 (by decide +kernel) (by decide +kernel)
theorem fl_X4_15 : Cond.fieldLink RX4 15 "MastFlags$MessageLog" "lengths" "[I" ∈ bw := bw_of 123 (by decide +kernel) (by decide +kernel)
theorem fl_X4_18 : Cond.fieldLink RX4 18 "MastFlags$MessageLog" "size" "I" ∈ bw := bw_of 124 (by decide +kernel) (by decide +kernel)
theorem fl_X4_22 : Cond.fieldLink RX4 22 "MastFlags$MessageLog" "all" "I" ∈ bw := bw_of 125 (by decide +kernel) (by decide +kernel)
theorem fl_X6_12 : Cond.fieldLink RX6 12 "MastFlags$State" "flags" "LMastFlags$FlagLocker;" ∈ bw := bw_of 135 (by decide +kernel) (by decide +kernel)
theorem fl_X8_56 : Cond.fieldLink RX8 56 "MastFlags$State" "flags" "LMastFlags$FlagLocker;" ∈ bw := bw_of 136 (by decide +kernel) (by decide +kernel)
theorem fl_X6_21 : Cond.fieldLink RX6 21 "MastFlags$State" "hoists" "LMastFlags$Hoists;" ∈ bw := bw_of 137 (by decide +kernel) (by decide +kernel)
theorem fl_X8_70 : Cond.fieldLink RX8 70 "MastFlags$State" "hoists" "LMastFlags$Hoists;" ∈ bw := bw_of 138 (by decide +kernel) (by decide +kernel)
theorem fl_X6_28 : Cond.fieldLink RX6 28 "MastFlags$State" "book" "LMastFlags$Book;" ∈ bw := bw_of 139 (by decide +kernel) (by decide +kernel)
theorem fl_X8_168 : Cond.fieldLink RX8 168 "MastFlags$State" "book" "LMastFlags$Book;" ∈ bw := bw_of 140 (by decide +kernel) (by decide +kernel)
theorem fl_X6_35 : Cond.fieldLink RX6 35 "MastFlags$State" "log" "LMastFlags$MessageLog;" ∈ bw := bw_of 141 (by decide +kernel) (by decide +kernel)
theorem fl_X8_140 : Cond.fieldLink RX8 140 "MastFlags$State" "log" "LMastFlags$MessageLog;" ∈ bw := bw_of 142 (by decide +kernel) (by decide +kernel)
theorem fl_X6_39 : Cond.fieldLink RX6 39 "MastFlags$State" "stock" "I" ∈ bw := bw_of 143 (by decide +kernel) (by decide +kernel)
theorem fl_X8_84 : Cond.fieldLink RX8 84 "MastFlags$State" "stock" "I" ∈ bw := bw_of 144 (by decide +kernel) (by decide +kernel)
theorem fl_X6_43 : Cond.fieldLink RX6 43 "MastFlags$State" "strength" "I" ∈ bw := bw_of 145 (by decide +kernel) (by decide +kernel)
theorem fl_X8_88 : Cond.fieldLink RX8 88 "MastFlags$State" "strength" "I" ∈ bw := bw_of 146 (by decide +kernel) (by decide +kernel)
theorem fl_X6_46 : Cond.fieldLink RX6 46 "MastFlags$State" "from" "I" ∈ bw := bw_of 147 (by decide +kernel) (by decide +kernel)
theorem fl_X8_91 : Cond.fieldLink RX8 91 "MastFlags$State" "from" "I" ∈ bw := bw_of 148 (by decide +kernel) (by decide +kernel)
theorem fl_X6_49 : Cond.fieldLink RX6 49 "MastFlags$State" "shipSide" "I" ∈ bw := bw_of 149 (by decide +kernel) (by decide +kernel)
theorem fl_X8_130 : Cond.fieldLink RX8 130 "MastFlags$State" "shipSide" "I" ∈ bw := bw_of 150 (by decide +kernel) (by decide +kernel)
theorem fl_X6_52 : Cond.fieldLink RX6 52 "MastFlags$State" "pennant" "I" ∈ bw := bw_of 151 (by decide +kernel) (by decide +kernel)
theorem fl_X8_127 : Cond.fieldLink RX8 127 "MastFlags$State" "pennant" "I" ∈ bw := bw_of 152 (by decide +kernel) (by decide +kernel)
theorem cl_X8_23 : Cond.classLink RX8 23 RX2 ∈ bw := bw_of 172 (by decide +kernel) (by decide +kernel)
theorem ib_X2 : Cond.instantiable RX2 3 ∈ bw := bw_of 173 (by decide +kernel) (by decide +kernel)
theorem ml_X8_25 : Cond.methodLink RX8 25 yX2_init ∈ bw := bw_of 174 (by decide +kernel) (by decide +kernel)
theorem im_X2_init : Cond.instanceMethod yX2_init ∈ bw := bw_of 175 (by decide +kernel) (by decide +kernel)
theorem cw_X2_init : Cond.code yX2_init cX2_init 2 none ∈ bw := bw_of 176 (by decide +kernel) (by decide +kernel)
theorem ml_X2_3 : Cond.methodLink RX2 3 objectInit ∈ bw := bw_of 177 (by decide +kernel) (by decide +kernel)
theorem cl_X2_9 : Cond.classLink RX2 9 RX6 ∈ bw := bw_of 178 (by decide +kernel) (by decide +kernel)
theorem ml_X2_24 : Cond.methodLink RX2 24 yX6_init ∈ bw := bw_of 180 (by decide +kernel) (by decide +kernel)
theorem fl_X2_11 : Cond.fieldLink RX2 11 "MastFlags$History" "states" "[LMastFlags$State;" ∈ bw := bw_of 181 (by decide +kernel) (by decide +kernel)
theorem fl_X2_17 : Cond.fieldLink RX2 17 "MastFlags$History" "next" "I" ∈ bw := bw_of 182 (by decide +kernel) (by decide +kernel)
theorem fl_X2_21 : Cond.fieldLink RX2 21 "MastFlags$History" "size" "I" ∈ bw := bw_of 183 (by decide +kernel) (by decide +kernel)
theorem cl_X8_30 : Cond.classLink RX8 30 RX7 ∈ bw := bw_of 191 (by decide +kernel) (by decide +kernel)
theorem ib_X7 : Cond.instantiable RX7 5 ∈ bw := bw_of 192 (by decide +kernel) (by decide +kernel)
theorem ml_X8_32 : Cond.methodLink RX8 32 yX7_init ∈ bw := bw_of 193 (by decide +kernel) (by decide +kernel)
theorem im_X7_init : Cond.instanceMethod yX7_init ∈ bw := bw_of 194 (by decide +kernel) (by decide +kernel)
theorem cw_X7_init : Cond.code yX7_init cX7_init 1 none ∈ bw := bw_of 195 (by decide +kernel) (by decide +kernel)
theorem ml_X7_3 : Cond.methodLink RX7 3 objectInit ∈ bw := bw_of 196 (by decide +kernel) (by decide +kernel)
theorem cl_X7_19 : Cond.classLink RX7 19 RX3 ∈ bw := bw_of 197 (by decide +kernel) (by decide +kernel)
theorem fl_X7_9 : Cond.fieldLink RX7 9 "MastFlags$Text" "characters" "[I" ∈ bw := bw_of 199 (by decide +kernel) (by decide +kernel)
theorem fl_X7_15 : Cond.fieldLink RX7 15 "MastFlags$Text" "size" "I" ∈ bw := bw_of 200 (by decide +kernel) (by decide +kernel)
theorem fl_X7_22 : Cond.fieldLink RX7 22 "MastFlags$Text" "hoists" "LMastFlags$Hoists;" ∈ bw := bw_of 201 (by decide +kernel) (by decide +kernel)
theorem fl_X8_240 : Cond.fieldLink RX8 240 "MastFlags$Text" "hoists" "LMastFlags$Hoists;" ∈ bw := bw_of 202 (by decide +kernel) (by decide +kernel)
theorem fl_X7_26 : Cond.fieldLink RX7 26 "MastFlags$Text" "halyard" "I" ∈ bw := bw_of 203 (by decide +kernel) (by decide +kernel)
theorem fl_X7_29 : Cond.fieldLink RX7 29 "MastFlags$Text" "want" "I" ∈ bw := bw_of 204 (by decide +kernel) (by decide +kernel)
theorem cl_X8_37 : Cond.classLink RX8 37 RX5 ∈ bw := bw_of 216 (by decide +kernel) (by decide +kernel)
theorem ib_X5 : Cond.instantiable RX5 4 ∈ bw := bw_of 217 (by decide +kernel) (by decide +kernel)
theorem ml_X8_39 : Cond.methodLink RX8 39 yX5_init ∈ bw := bw_of 218 (by decide +kernel) (by decide +kernel)
theorem im_X5_init : Cond.instanceMethod yX5_init ∈ bw := bw_of 219 (by decide +kernel) (by decide +kernel)
theorem cw_X5_init : Cond.code yX5_init cX5_init 2 none ∈ bw := bw_of 220 (by decide +kernel) (by decide +kernel)
theorem ml_X5_3 : Cond.methodLink RX5 3 objectInit ∈ bw := bw_of 221 (by decide +kernel) (by decide +kernel)
theorem fl_X5_22 : Cond.fieldLink RX5 22 "MastFlags$Reading" "side" "I" ∈ bw := bw_of 222 (by decide +kernel) (by decide +kernel)
theorem fl_X5_9 : Cond.fieldLink RX5 9 "MastFlags$Reading" "wordsByHalyard" "[I" ∈ bw := bw_of 223 (by decide +kernel) (by decide +kernel)
theorem fl_X5_15 : Cond.fieldLink RX5 15 "MastFlags$Reading" "message" "[I" ∈ bw := bw_of 224 (by decide +kernel) (by decide +kernel)
theorem fl_X8_144 : Cond.fieldLink RX8 144 "MastFlags$Reading" "message" "[I" ∈ bw := bw_of 225 (by decide +kernel) (by decide +kernel)
theorem fl_X5_18 : Cond.fieldLink RX5 18 "MastFlags$Reading" "size" "I" ∈ bw := bw_of 226 (by decide +kernel) (by decide +kernel)
theorem fl_X8_10 : Cond.fieldLink RX8 10 "MastFlags" "now" "LMastFlags$State;" ∈ bw := bw_of 236 (by decide +kernel) (by decide +kernel)
theorem fl_X8_16 : Cond.fieldLink RX8 16 "MastFlags" "saved" "LMastFlags$State;" ∈ bw := bw_of 237 (by decide +kernel) (by decide +kernel)
theorem fl_X8_19 : Cond.fieldLink RX8 19 "MastFlags" "isSaved" "Z" ∈ bw := bw_of 238 (by decide +kernel) (by decide +kernel)
theorem fl_X8_26 : Cond.fieldLink RX8 26 "MastFlags" "history" "LMastFlags$History;" ∈ bw := bw_of 239 (by decide +kernel) (by decide +kernel)
theorem fl_X8_33 : Cond.fieldLink RX8 33 "MastFlags" "text" "LMastFlags$Text;" ∈ bw := bw_of 240 (by decide +kernel) (by decide +kernel)
theorem fl_X8_42 : Cond.fieldLink RX8 42 "MastFlags" "front" "LMastFlags$Reading;" ∈ bw := bw_of 241 (by decide +kernel) (by decide +kernel)
theorem fl_X8_46 : Cond.fieldLink RX8 46 "MastFlags" "behind" "LMastFlags$Reading;" ∈ bw := bw_of 242 (by decide +kernel) (by decide +kernel)
theorem ml_L_13 : Cond.methodLink RL 13 yX8_paint ∈ bw := bw_of 258 (by decide +kernel) (by decide +kernel)
theorem im_X8_paint : Cond.instanceMethod yX8_paint ∈ bw := bw_of 259 (by decide +kernel) (by decide +kernel)
theorem se_X8_paint : Cond.selects RX8 yX8_paint yX8_paint ∈ bw := bw_of 260 (by decide +kernel) (by decide +kernel)
theorem cw_X8_paint : Cond.code yX8_paint cX8_paint 5 (some .int) ∈ bw := bw_of 261 (by decide +kernel) (by decide +kernel)
theorem ml_X8_49 : Cond.methodLink RX8 49 yX8_isBelow ∈ bw := bw_of 262 (by decide +kernel) (by decide +kernel)
theorem sm_X8_isBelow : Cond.static yX8_isBelow ∈ bw := bw_of 263 (by decide +kernel) (by decide +kernel)
theorem cw_X8_isBelow : Cond.code yX8_isBelow cX8_isBelow 2 (some .boolean) ∈ bw := bw_of 264 (by decide +kernel) (by decide +kernel)
theorem ml_X8_53 : Cond.methodLink RX8 53 yX8_recordAndBringPennantDown ∈ bw := bw_of 265 (by decide +kernel) (by decide +kernel)
theorem im_X8_recordAndBringPennantDown : Cond.instanceMethod yX8_recordAndBringPennantDown ∈ bw := bw_of 267 (by decide +kernel) (by decide +kernel)
theorem cw_X8_recordAndBringPennantDown : Cond.code yX8_recordAndBringPennantDown cX8_recordAndBringPennantDown 1 none ∈ bw := bw_of 268 (by decide +kernel) (by decide +kernel)
theorem ml_X8_80 : Cond.methodLink RX8 80 yX2_record ∈ bw := bw_of 269 (by decide +kernel) (by decide +kernel)
theorem im_X2_record : Cond.instanceMethod yX2_record ∈ bw := bw_of 270 (by decide +kernel) (by decide +kernel)
theorem se_X2_record : Cond.selects RX2 yX2_record yX2_record ∈ bw := bw_of 271 (by decide +kernel) (by decide +kernel)
theorem cw_X2_record : Cond.code yX2_record cX2_record 3 none ∈ bw := bw_of 272 (by decide +kernel) (by decide +kernel)
theorem ml_X2_25 : Cond.methodLink RX2 25 yX2_slotAt ∈ bw := bw_of 273 (by decide +kernel) (by decide +kernel)
theorem im_X2_slotAt : Cond.instanceMethod yX2_slotAt ∈ bw := bw_of 275 (by decide +kernel) (by decide +kernel)
theorem cw_X2_slotAt : Cond.code yX2_slotAt cX2_slotAt 2 (some (.object "MastFlags$State")) ∈ bw := bw_of 276 (by decide +kernel) (by decide +kernel)
theorem ml_X2_29 : Cond.methodLink RX2 29 yX6_copyFrom ∈ bw := bw_of 278 (by decide +kernel) (by decide +kernel)
theorem im_X6_copyFrom : Cond.instanceMethod yX6_copyFrom ∈ bw := bw_of 279 (by decide +kernel) (by decide +kernel)
theorem se_X6_copyFrom : Cond.selects RX6 yX6_copyFrom yX6_copyFrom ∈ bw := bw_of 280 (by decide +kernel) (by decide +kernel)
theorem cw_X6_copyFrom : Cond.code yX6_copyFrom cX6_copyFrom 2 none ∈ bw := bw_of 281 (by decide +kernel) (by decide +kernel)
theorem ml_X6_55 : Cond.methodLink RX6 55 yX1_copyFrom ∈ bw := bw_of 282 (by decide +kernel) (by decide +kernel)
theorem im_X1_copyFrom : Cond.instanceMethod yX1_copyFrom ∈ bw := bw_of 283 (by decide +kernel) (by decide +kernel)
theorem se_X1_copyFrom : Cond.selects RX1 yX1_copyFrom yX1_copyFrom ∈ bw := bw_of 284 (by decide +kernel) (by decide +kernel)
theorem cw_X1_copyFrom : Cond.code yX1_copyFrom cX1_copyFrom 2 none ∈ bw := bw_of 285 (by decide +kernel) (by decide +kernel)
theorem ml_X1_21 : Cond.methodLink RX1 21 arraycopyName ∈ bw := bw_of 286 (by decide +kernel) (by decide +kernel)
theorem sm_arraycopyName : Cond.static arraycopyName ∈ bw := bw_of 287 (by decide +kernel) (by decide +kernel)
theorem nat_ac : Cond.native arraycopyName ∈ bw := bw_of 288 (by decide +kernel) (by decide +kernel)
theorem ml_X6_59 : Cond.methodLink RX6 59 yX3_copyFrom ∈ bw := bw_of 289 (by decide +kernel) (by decide +kernel)
theorem im_X3_copyFrom : Cond.instanceMethod yX3_copyFrom ∈ bw := bw_of 290 (by decide +kernel) (by decide +kernel)
theorem se_X3_copyFrom : Cond.selects RX3 yX3_copyFrom yX3_copyFrom ∈ bw := bw_of 291 (by decide +kernel) (by decide +kernel)
theorem cw_X3_copyFrom : Cond.code yX3_copyFrom cX3_copyFrom 2 none ∈ bw := bw_of 292 (by decide +kernel) (by decide +kernel)
theorem ml_X3_18 : Cond.methodLink RX3 18 arraycopyName ∈ bw := bw_of 293 (by decide +kernel) (by decide +kernel)
theorem ml_X6_62 : Cond.methodLink RX6 62 yX0_copyFrom ∈ bw := bw_of 294 (by decide +kernel) (by decide +kernel)
theorem im_X0_copyFrom : Cond.instanceMethod yX0_copyFrom ∈ bw := bw_of 295 (by decide +kernel) (by decide +kernel)
theorem se_X0_copyFrom : Cond.selects RX0 yX0_copyFrom yX0_copyFrom ∈ bw := bw_of 296 (by decide +kernel) (by decide +kernel)
theorem cw_X0_copyFrom : Cond.code yX0_copyFrom cX0_copyFrom 2 none ∈ bw := bw_of 297 (by decide +kernel) (by decide +kernel)
theorem ml_X0_22 : Cond.methodLink RX0 22 arraycopyName ∈ bw := bw_of 298 (by decide +kernel) (by decide +kernel)
theorem ml_X6_65 : Cond.methodLink RX6 65 yX4_copyFrom ∈ bw := bw_of 299 (by decide +kernel) (by decide +kernel)
theorem im_X4_copyFrom : Cond.instanceMethod yX4_copyFrom ∈ bw := bw_of 300 (by decide +kernel) (by decide +kernel)
theorem se_X4_copyFrom : Cond.selects RX4 yX4_copyFrom yX4_copyFrom ∈ bw := bw_of 301 (by decide +kernel) (by decide +kernel)
theorem cw_X4_copyFrom : Cond.code yX4_copyFrom cX4_copyFrom 2 none ∈ bw := bw_of 302 (by decide +kernel) (by decide +kernel)
theorem ml_X4_25 : Cond.methodLink RX4 25 arraycopyName ∈ bw := bw_of 303 (by decide +kernel) (by decide +kernel)
theorem ml_X2_33 : Cond.methodLink RX2 33 Lib.Math.min.name ∈ bw := bw_of 304 (by decide +kernel) (by decide +kernel)
theorem sm_Lib_Math_min_name : Cond.static Lib.Math.min.name ∈ bw := bw_of 305 (by decide +kernel) (by decide +kernel)
theorem cw_min : Cond.code Lib.Math.min.name Lib.Math.min.code 2 (some .int) ∈ bw := bw_of 306 (by decide +kernel) (by decide +kernel)
theorem ml_X8_60 : Cond.methodLink RX8 60 yX1_change ∈ bw := bw_of 307 (by decide +kernel) (by decide +kernel)
theorem im_X1_change : Cond.instanceMethod yX1_change ∈ bw := bw_of 308 (by decide +kernel) (by decide +kernel)
theorem se_X1_change : Cond.selects RX1 yX1_change yX1_change ∈ bw := bw_of 309 (by decide +kernel) (by decide +kernel)
theorem cw_X1_change : Cond.code yX1_change cX1_change 5 none ∈ bw := bw_of 310 (by decide +kernel) (by decide +kernel)
theorem ml_X8_66 : Cond.methodLink RX8 66 yX1_countWith ∈ bw := bw_of 312 (by decide +kernel) (by decide +kernel)
theorem im_X1_countWith : Cond.instanceMethod yX1_countWith ∈ bw := bw_of 313 (by decide +kernel) (by decide +kernel)
theorem se_X1_countWith : Cond.selects RX1 yX1_countWith yX1_countWith ∈ bw := bw_of 314 (by decide +kernel) (by decide +kernel)
theorem cw_X1_countWith : Cond.code yX1_countWith cX1_countWith 5 (some .int) ∈ bw := bw_of 315 (by decide +kernel) (by decide +kernel)
theorem ml_L_18 : Cond.methodLink RL 18 yX8_setStock ∈ bw := bw_of 316 (by decide +kernel) (by decide +kernel)
theorem im_X8_setStock : Cond.instanceMethod yX8_setStock ∈ bw := bw_of 317 (by decide +kernel) (by decide +kernel)
theorem se_X8_setStock : Cond.selects RX8 yX8_setStock yX8_setStock ∈ bw := bw_of 318 (by decide +kernel) (by decide +kernel)
theorem cw_X8_setStock : Cond.code yX8_setStock cX8_setStock 3 (some .int) ∈ bw := bw_of 319 (by decide +kernel) (by decide +kernel)
theorem ml_X8_74 : Cond.methodLink RX8 74 yX3_mostOfAKind ∈ bw := bw_of 320 (by decide +kernel) (by decide +kernel)
theorem im_X3_mostOfAKind : Cond.instanceMethod yX3_mostOfAKind ∈ bw := bw_of 321 (by decide +kernel) (by decide +kernel)
theorem se_X3_mostOfAKind : Cond.selects RX3 yX3_mostOfAKind yX3_mostOfAKind ∈ bw := bw_of 322 (by decide +kernel) (by decide +kernel)
theorem cw_X3_mostOfAKind : Cond.code yX3_mostOfAKind cX3_mostOfAKind 3 (some .int) ∈ bw := bw_of 323 (by decide +kernel) (by decide +kernel)
theorem ml_X3_39 : Cond.methodLink RX3 39 yX3_countOf ∈ bw := bw_of 324 (by decide +kernel) (by decide +kernel)
theorem im_X3_countOf : Cond.instanceMethod yX3_countOf ∈ bw := bw_of 325 (by decide +kernel) (by decide +kernel)
theorem se_X3_countOf : Cond.selects RX3 yX3_countOf yX3_countOf ∈ bw := bw_of 326 (by decide +kernel) (by decide +kernel)
theorem cw_X3_countOf : Cond.code yX3_countOf cX3_countOf 5 (some .int) ∈ bw := bw_of 327 (by decide +kernel) (by decide +kernel)
theorem ml_X3_31 : Cond.methodLink RX3 31 yX3_signAt ∈ bw := bw_of 328 (by decide +kernel) (by decide +kernel)
theorem im_X3_signAt : Cond.instanceMethod yX3_signAt ∈ bw := bw_of 329 (by decide +kernel) (by decide +kernel)
theorem se_X3_signAt : Cond.selects RX3 yX3_signAt yX3_signAt ∈ bw := bw_of 330 (by decide +kernel) (by decide +kernel)
theorem cw_X3_signAt : Cond.code yX3_signAt cX3_signAt 3 (some .int) ∈ bw := bw_of 331 (by decide +kernel) (by decide +kernel)
theorem ml_X3_28 : Cond.methodLink RX3 28 yX3_has ∈ bw := bw_of 332 (by decide +kernel) (by decide +kernel)
theorem im_X3_has : Cond.instanceMethod yX3_has ∈ bw := bw_of 333 (by decide +kernel) (by decide +kernel)
theorem se_X3_has : Cond.selects RX3 yX3_has yX3_has ∈ bw := bw_of 334 (by decide +kernel) (by decide +kernel)
theorem cw_X3_has : Cond.code yX3_has cX3_has 3 (some .boolean) ∈ bw := bw_of 335 (by decide +kernel) (by decide +kernel)
theorem ml_X3_42 : Cond.methodLink RX3 42 Lib.Math.max.name ∈ bw := bw_of 336 (by decide +kernel) (by decide +kernel)
theorem sm_Lib_Math_max_name : Cond.static Lib.Math.max.name ∈ bw := bw_of 337 (by decide +kernel) (by decide +kernel)
theorem cw_max : Cond.code Lib.Math.max.name Lib.Math.max.code 2 (some .int) ∈ bw := bw_of 338 (by decide +kernel) (by decide +kernel)
theorem ml_L_23 : Cond.methodLink RL 23 yX8_setWind ∈ bw := bw_of 339 (by decide +kernel) (by decide +kernel)
theorem im_X8_setWind : Cond.instanceMethod yX8_setWind ∈ bw := bw_of 340 (by decide +kernel) (by decide +kernel)
theorem se_X8_setWind : Cond.selects RX8 yX8_setWind yX8_setWind ∈ bw := bw_of 341 (by decide +kernel) (by decide +kernel)
theorem cw_X8_setWind : Cond.code yX8_setWind cX8_setWind 4 (some .int) ∈ bw := bw_of 342 (by decide +kernel) (by decide +kernel)
theorem ml_L_28 : Cond.methodLink RL 28 yX8_flag ∈ bw := bw_of 343 (by decide +kernel) (by decide +kernel)
theorem im_X8_flag : Cond.instanceMethod yX8_flag ∈ bw := bw_of 344 (by decide +kernel) (by decide +kernel)
theorem se_X8_flag : Cond.selects RX8 yX8_flag yX8_flag ∈ bw := bw_of 345 (by decide +kernel) (by decide +kernel)
theorem cw_X8_flag : Cond.code yX8_flag cX8_flag 3 (some .int) ∈ bw := bw_of 346 (by decide +kernel) (by decide +kernel)
theorem ml_X8_94 : Cond.methodLink RX8 94 yX1_atHoist ∈ bw := bw_of 347 (by decide +kernel) (by decide +kernel)
theorem im_X1_atHoist : Cond.instanceMethod yX1_atHoist ∈ bw := bw_of 348 (by decide +kernel) (by decide +kernel)
theorem se_X1_atHoist : Cond.selects RX1 yX1_atHoist yX1_atHoist ∈ bw := bw_of 349 (by decide +kernel) (by decide +kernel)
theorem cw_X1_atHoist : Cond.code yX1_atHoist cX1_atHoist 2 (some .int) ∈ bw := bw_of 350 (by decide +kernel) (by decide +kernel)
theorem ml_X8_98 : Cond.methodLink RX8 98 yX1_atFly ∈ bw := bw_of 351 (by decide +kernel) (by decide +kernel)
theorem im_X1_atFly : Cond.instanceMethod yX1_atFly ∈ bw := bw_of 352 (by decide +kernel) (by decide +kernel)
theorem se_X1_atFly : Cond.selects RX1 yX1_atFly yX1_atFly ∈ bw := bw_of 353 (by decide +kernel) (by decide +kernel)
theorem cw_X1_atFly : Cond.code yX1_atFly cX1_atFly 2 (some .int) ∈ bw := bw_of 354 (by decide +kernel) (by decide +kernel)
theorem ml_X8_101 : Cond.methodLink RX8 101 yX1_weightOf ∈ bw := bw_of 355 (by decide +kernel) (by decide +kernel)
theorem im_X1_weightOf : Cond.instanceMethod yX1_weightOf ∈ bw := bw_of 356 (by decide +kernel) (by decide +kernel)
theorem se_X1_weightOf : Cond.selects RX1 yX1_weightOf yX1_weightOf ∈ bw := bw_of 357 (by decide +kernel) (by decide +kernel)
theorem cw_X1_weightOf : Cond.code yX1_weightOf cX1_weightOf 2 (some .int) ∈ bw := bw_of 358 (by decide +kernel) (by decide +kernel)
theorem ml_X8_104 : Cond.methodLink RX8 104 yX3_countOf ∈ bw := bw_of 359 (by decide +kernel) (by decide +kernel)
theorem ml_X8_107 : Cond.methodLink RX8 107 yX1_firstWith ∈ bw := bw_of 360 (by decide +kernel) (by decide +kernel)
theorem im_X1_firstWith : Cond.instanceMethod yX1_firstWith ∈ bw := bw_of 361 (by decide +kernel) (by decide +kernel)
theorem se_X1_firstWith : Cond.selects RX1 yX1_firstWith yX1_firstWith ∈ bw := bw_of 362 (by decide +kernel) (by decide +kernel)
theorem cw_X1_firstWith : Cond.code yX1_firstWith cX1_firstWith 4 (some .int) ∈ bw := bw_of 363 (by decide +kernel) (by decide +kernel)
theorem ml_L_32 : Cond.methodLink RL 32 yX8_bend ∈ bw := bw_of 364 (by decide +kernel) (by decide +kernel)
theorem im_X8_bend : Cond.instanceMethod yX8_bend ∈ bw := bw_of 365 (by decide +kernel) (by decide +kernel)
theorem se_X8_bend : Cond.selects RX8 yX8_bend yX8_bend ∈ bw := bw_of 366 (by decide +kernel) (by decide +kernel)
theorem cw_X8_bend : Cond.code yX8_bend cX8_bend 4 (some .int) ∈ bw := bw_of 367 (by decide +kernel) (by decide +kernel)
theorem ml_X8_110 : Cond.methodLink RX8 110 yX8_isSign ∈ bw := bw_of 368 (by decide +kernel) (by decide +kernel)
theorem sm_X8_isSign : Cond.static yX8_isSign ∈ bw := bw_of 369 (by decide +kernel) (by decide +kernel)
theorem cw_X8_isSign : Cond.code yX8_isSign cX8_isSign 1 (some .boolean) ∈ bw := bw_of 370 (by decide +kernel) (by decide +kernel)
theorem ml_X8_114 : Cond.methodLink RX8 114 yX3_sizeOf ∈ bw := bw_of 371 (by decide +kernel) (by decide +kernel)
theorem im_X3_sizeOf : Cond.instanceMethod yX3_sizeOf ∈ bw := bw_of 372 (by decide +kernel) (by decide +kernel)
theorem se_X3_sizeOf : Cond.selects RX3 yX3_sizeOf yX3_sizeOf ∈ bw := bw_of 373 (by decide +kernel) (by decide +kernel)
theorem cw_X3_sizeOf : Cond.code yX3_sizeOf cX3_sizeOf 2 (some .int) ∈ bw := bw_of 374 (by decide +kernel) (by decide +kernel)
theorem ml_X8_117 : Cond.methodLink RX8 117 yX3_add ∈ bw := bw_of 376 (by decide +kernel) (by decide +kernel)
theorem im_X3_add : Cond.instanceMethod yX3_add ∈ bw := bw_of 377 (by decide +kernel) (by decide +kernel)
theorem se_X3_add : Cond.selects RX3 yX3_add yX3_add ∈ bw := bw_of 378 (by decide +kernel) (by decide +kernel)
theorem cw_X3_add : Cond.code yX3_add cX3_add 3 none ∈ bw := bw_of 379 (by decide +kernel) (by decide +kernel)
theorem ml_L_36 : Cond.methodLink RL 36 yX8_unbend ∈ bw := bw_of 380 (by decide +kernel) (by decide +kernel)
theorem im_X8_unbend : Cond.instanceMethod yX8_unbend ∈ bw := bw_of 381 (by decide +kernel) (by decide +kernel)
theorem se_X8_unbend : Cond.selects RX8 yX8_unbend yX8_unbend ∈ bw := bw_of 382 (by decide +kernel) (by decide +kernel)
theorem cw_X8_unbend : Cond.code yX8_unbend cX8_unbend 2 (some .int) ∈ bw := bw_of 383 (by decide +kernel) (by decide +kernel)
theorem ml_X8_121 : Cond.methodLink RX8 121 yX3_removeLowest ∈ bw := bw_of 384 (by decide +kernel) (by decide +kernel)
theorem im_X3_removeLowest : Cond.instanceMethod yX3_removeLowest ∈ bw := bw_of 385 (by decide +kernel) (by decide +kernel)
theorem se_X3_removeLowest : Cond.selects RX3 yX3_removeLowest yX3_removeLowest ∈ bw := bw_of 386 (by decide +kernel) (by decide +kernel)
theorem cw_X3_removeLowest : Cond.code yX3_removeLowest cX3_removeLowest 3 (some .int) ∈ bw := bw_of 387 (by decide +kernel) (by decide +kernel)
theorem ml_X3_35 : Cond.methodLink RX3 35 yX3_sizeOf ∈ bw := bw_of 388 (by decide +kernel) (by decide +kernel)
theorem ml_L_40 : Cond.methodLink RL 40 yX8_exchange ∈ bw := bw_of 389 (by decide +kernel) (by decide +kernel)
theorem im_X8_exchange : Cond.instanceMethod yX8_exchange ∈ bw := bw_of 390 (by decide +kernel) (by decide +kernel)
theorem se_X8_exchange : Cond.selects RX8 yX8_exchange yX8_exchange ∈ bw := bw_of 391 (by decide +kernel) (by decide +kernel)
theorem cw_X8_exchange : Cond.code yX8_exchange cX8_exchange 3 (some .int) ∈ bw := bw_of 392 (by decide +kernel) (by decide +kernel)
theorem ml_X8_124 : Cond.methodLink RX8 124 yX3_swap ∈ bw := bw_of 393 (by decide +kernel) (by decide +kernel)
theorem im_X3_swap : Cond.instanceMethod yX3_swap ∈ bw := bw_of 394 (by decide +kernel) (by decide +kernel)
theorem se_X3_swap : Cond.selects RX3 yX3_swap yX3_swap ∈ bw := bw_of 395 (by decide +kernel) (by decide +kernel)
theorem cw_X3_swap : Cond.code yX3_swap cX3_swap 5 none ∈ bw := bw_of 396 (by decide +kernel) (by decide +kernel)
theorem ml_L_44 : Cond.methodLink RL 44 yX8_lower ∈ bw := bw_of 397 (by decide +kernel) (by decide +kernel)
theorem im_X8_lower : Cond.instanceMethod yX8_lower ∈ bw := bw_of 398 (by decide +kernel) (by decide +kernel)
theorem se_X8_lower : Cond.selects RX8 yX8_lower yX8_lower ∈ bw := bw_of 399 (by decide +kernel) (by decide +kernel)
theorem cw_X8_lower : Cond.code yX8_lower cX8_lower 4 (some .int) ∈ bw := bw_of 400 (by decide +kernel) (by decide +kernel)
theorem ml_X8_133 : Cond.methodLink RX8 133 yX8_read ∈ bw := bw_of 401 (by decide +kernel) (by decide +kernel)
theorem im_X8_read : Cond.instanceMethod yX8_read ∈ bw := bw_of 403 (by decide +kernel) (by decide +kernel)
theorem cw_X8_read : Cond.code yX8_read cX8_read 3 (some (.object "MastFlags$Reading")) ∈ bw := bw_of 404 (by decide +kernel) (by decide +kernel)
theorem ml_X8_217 : Cond.methodLink RX8 217 yX8_readingOf ∈ bw := bw_of 405 (by decide +kernel) (by decide +kernel)
theorem im_X8_readingOf : Cond.instanceMethod yX8_readingOf ∈ bw := bw_of 407 (by decide +kernel) (by decide +kernel)
theorem cw_X8_readingOf : Cond.code yX8_readingOf cX8_readingOf 2 (some (.object "MastFlags$Reading")) ∈ bw := bw_of 408 (by decide +kernel) (by decide +kernel)
theorem ml_X8_220 : Cond.methodLink RX8 220 yX5_look ∈ bw := bw_of 409 (by decide +kernel) (by decide +kernel)
theorem im_X5_look : Cond.instanceMethod yX5_look ∈ bw := bw_of 410 (by decide +kernel) (by decide +kernel)
theorem se_X5_look : Cond.selects RX5 yX5_look yX5_look ∈ bw := bw_of 411 (by decide +kernel) (by decide +kernel)
theorem cw_X5_look : Cond.code yX5_look cX5_look 6 none ∈ bw := bw_of 412 (by decide +kernel) (by decide +kernel)
theorem sm_X8_isHoistFirst : Cond.static yX8_isHoistFirst ∈ bw := bw_of 414 (by decide +kernel) (by decide +kernel)
theorem cw_X8_isHoistFirst : Cond.code yX8_isHoistFirst cX8_isHoistFirst 2 (some .boolean) ∈ bw := bw_of 415 (by decide +kernel) (by decide +kernel)
theorem ml_X5_29 : Cond.methodLink RX5 29 yX6_readHoist ∈ bw := bw_of 416 (by decide +kernel) (by decide +kernel)
theorem im_X6_readHoist : Cond.instanceMethod yX6_readHoist ∈ bw := bw_of 417 (by decide +kernel) (by decide +kernel)
theorem se_X6_readHoist : Cond.selects RX6 yX6_readHoist yX6_readHoist ∈ bw := bw_of 418 (by decide +kernel) (by decide +kernel)
theorem cw_X6_readHoist : Cond.code yX6_readHoist cX6_readHoist 8 (some .int) ∈ bw := bw_of 419 (by decide +kernel) (by decide +kernel)
theorem ml_X6_68 : Cond.methodLink RX6 68 yX3_sizeOf ∈ bw := bw_of 420 (by decide +kernel) (by decide +kernel)
theorem ml_X6_72 : Cond.methodLink RX6 72 yX3_flagAt ∈ bw := bw_of 421 (by decide +kernel) (by decide +kernel)
theorem im_X3_flagAt : Cond.instanceMethod yX3_flagAt ∈ bw := bw_of 422 (by decide +kernel) (by decide +kernel)
theorem se_X3_flagAt : Cond.selects RX3 yX3_flagAt yX3_flagAt ∈ bw := bw_of 423 (by decide +kernel) (by decide +kernel)
theorem cw_X3_flagAt : Cond.code yX3_flagAt cX3_flagAt 5 (some .int) ∈ bw := bw_of 424 (by decide +kernel) (by decide +kernel)
theorem ml_X6_76 : Cond.methodLink RX6 76 yX1_takenFor ∈ bw := bw_of 425 (by decide +kernel) (by decide +kernel)
theorem im_X1_takenFor : Cond.instanceMethod yX1_takenFor ∈ bw := bw_of 426 (by decide +kernel) (by decide +kernel)
theorem se_X1_takenFor : Cond.selects RX1 yX1_takenFor yX1_takenFor ∈ bw := bw_of 427 (by decide +kernel) (by decide +kernel)
theorem cw_X1_takenFor : Cond.code yX1_takenFor cX1_takenFor 4 (some .int) ∈ bw := bw_of 428 (by decide +kernel) (by decide +kernel)
theorem ml_X1_31 : Cond.methodLink RX1 31 yX1_firstWith ∈ bw := bw_of 429 (by decide +kernel) (by decide +kernel)
theorem ml_X6_80 : Cond.methodLink RX6 80 yX0_wordFor ∈ bw := bw_of 430 (by decide +kernel) (by decide +kernel)
theorem im_X0_wordFor : Cond.instanceMethod yX0_wordFor ∈ bw := bw_of 431 (by decide +kernel) (by decide +kernel)
theorem se_X0_wordFor : Cond.selects RX0 yX0_wordFor yX0_wordFor ∈ bw := bw_of 432 (by decide +kernel) (by decide +kernel)
theorem cw_X0_wordFor : Cond.code yX0_wordFor cX0_wordFor 3 (some .int) ∈ bw := bw_of 433 (by decide +kernel) (by decide +kernel)
theorem ml_X5_35 : Cond.methodLink RX5 35 yX5_arrange ∈ bw := bw_of 434 (by decide +kernel) (by decide +kernel)
theorem im_X5_arrange : Cond.instanceMethod yX5_arrange ∈ bw := bw_of 435 (by decide +kernel) (by decide +kernel)
theorem se_X5_arrange : Cond.selects RX5 yX5_arrange yX5_arrange ∈ bw := bw_of 436 (by decide +kernel) (by decide +kernel)
theorem cw_X5_arrange : Cond.code yX5_arrange cX5_arrange 5 none ∈ bw := bw_of 437 (by decide +kernel) (by decide +kernel)
theorem ml_X8_137 : Cond.methodLink RX8 137 yX5_size ∈ bw := bw_of 439 (by decide +kernel) (by decide +kernel)
theorem im_X5_size : Cond.instanceMethod yX5_size ∈ bw := bw_of 440 (by decide +kernel) (by decide +kernel)
theorem se_X5_size : Cond.selects RX5 yX5_size yX5_size ∈ bw := bw_of 441 (by decide +kernel) (by decide +kernel)
theorem cw_X5_size : Cond.code yX5_size cX5_size 1 (some .int) ∈ bw := bw_of 442 (by decide +kernel) (by decide +kernel)
theorem ml_X8_148 : Cond.methodLink RX8 148 yX4_add ∈ bw := bw_of 443 (by decide +kernel) (by decide +kernel)
theorem im_X4_add : Cond.instanceMethod yX4_add ∈ bw := bw_of 444 (by decide +kernel) (by decide +kernel)
theorem se_X4_add : Cond.selects RX4 yX4_add yX4_add ∈ bw := bw_of 445 (by decide +kernel) (by decide +kernel)
theorem cw_X4_add : Cond.code yX4_add cX4_add 4 none ∈ bw := bw_of 446 (by decide +kernel) (by decide +kernel)
theorem ml_X8_153 : Cond.methodLink RX8 153 yX3_clear ∈ bw := bw_of 448 (by decide +kernel) (by decide +kernel)
theorem im_X3_clear : Cond.instanceMethod yX3_clear ∈ bw := bw_of 449 (by decide +kernel) (by decide +kernel)
theorem se_X3_clear : Cond.selects RX3 yX3_clear yX3_clear ∈ bw := bw_of 450 (by decide +kernel) (by decide +kernel)
theorem cw_X3_clear : Cond.code yX3_clear cX3_clear 2 none ∈ bw := bw_of 451 (by decide +kernel) (by decide +kernel)
theorem ml_L_49 : Cond.methodLink RL 49 yX8_sign ∈ bw := bw_of 452 (by decide +kernel) (by decide +kernel)
theorem im_X8_sign : Cond.instanceMethod yX8_sign ∈ bw := bw_of 453 (by decide +kernel) (by decide +kernel)
theorem se_X8_sign : Cond.selects RX8 yX8_sign yX8_sign ∈ bw := bw_of 454 (by decide +kernel) (by decide +kernel)
theorem cw_X8_sign : Cond.code yX8_sign cX8_sign 4 (some .int) ∈ bw := bw_of 455 (by decide +kernel) (by decide +kernel)
theorem ml_X8_156 : Cond.methodLink RX8 156 yX3_has ∈ bw := bw_of 456 (by decide +kernel) (by decide +kernel)
theorem ml_X8_159 : Cond.methodLink RX8 159 yX3_signAt ∈ bw := bw_of 457 (by decide +kernel) (by decide +kernel)
theorem ml_X8_162 : Cond.methodLink RX8 162 yX3_flagAt ∈ bw := bw_of 458 (by decide +kernel) (by decide +kernel)
theorem ml_L_54 : Cond.methodLink RL 54 yX8_enter ∈ bw := bw_of 459 (by decide +kernel) (by decide +kernel)
theorem im_X8_enter : Cond.instanceMethod yX8_enter ∈ bw := bw_of 460 (by decide +kernel) (by decide +kernel)
theorem se_X8_enter : Cond.selects RX8 yX8_enter yX8_enter ∈ bw := bw_of 461 (by decide +kernel) (by decide +kernel)
theorem cw_X8_enter : Cond.code yX8_enter cX8_enter 3 (some .int) ∈ bw := bw_of 462 (by decide +kernel) (by decide +kernel)
theorem ml_X8_165 : Cond.methodLink RX8 165 yX8_isFlagsNumber ∈ bw := bw_of 463 (by decide +kernel) (by decide +kernel)
theorem sm_X8_isFlagsNumber : Cond.static yX8_isFlagsNumber ∈ bw := bw_of 464 (by decide +kernel) (by decide +kernel)
theorem cw_X8_isFlagsNumber : Cond.code yX8_isFlagsNumber cX8_isFlagsNumber 3 (some .boolean) ∈ bw := bw_of 465 (by decide +kernel) (by decide +kernel)
theorem ml_X8_172 : Cond.methodLink RX8 172 yX0_size ∈ bw := bw_of 466 (by decide +kernel) (by decide +kernel)
theorem im_X0_size : Cond.instanceMethod yX0_size ∈ bw := bw_of 467 (by decide +kernel) (by decide +kernel)
theorem se_X0_size : Cond.selects RX0 yX0_size yX0_size ∈ bw := bw_of 468 (by decide +kernel) (by decide +kernel)
theorem cw_X0_size : Cond.code yX0_size cX0_size 1 (some .int) ∈ bw := bw_of 469 (by decide +kernel) (by decide +kernel)
theorem ml_X8_175 : Cond.methodLink RX8 175 yX0_add ∈ bw := bw_of 470 (by decide +kernel) (by decide +kernel)
theorem im_X0_add : Cond.instanceMethod yX0_add ∈ bw := bw_of 471 (by decide +kernel) (by decide +kernel)
theorem se_X0_add : Cond.selects RX0 yX0_add yX0_add ∈ bw := bw_of 472 (by decide +kernel) (by decide +kernel)
theorem cw_X0_add : Cond.code yX0_add cX0_add 3 none ∈ bw := bw_of 473 (by decide +kernel) (by decide +kernel)
theorem ml_L_58 : Cond.methodLink RL 58 yX8_strike ∈ bw := bw_of 475 (by decide +kernel) (by decide +kernel)
theorem im_X8_strike : Cond.instanceMethod yX8_strike ∈ bw := bw_of 476 (by decide +kernel) (by decide +kernel)
theorem se_X8_strike : Cond.selects RX8 yX8_strike yX8_strike ∈ bw := bw_of 477 (by decide +kernel) (by decide +kernel)
theorem cw_X8_strike : Cond.code yX8_strike cX8_strike 2 (some .int) ∈ bw := bw_of 478 (by decide +kernel) (by decide +kernel)
theorem ml_X8_176 : Cond.methodLink RX8 176 yX0_remove ∈ bw := bw_of 479 (by decide +kernel) (by decide +kernel)
theorem im_X0_remove : Cond.instanceMethod yX0_remove ∈ bw := bw_of 480 (by decide +kernel) (by decide +kernel)
theorem se_X0_remove : Cond.selects RX0 yX0_remove yX0_remove ∈ bw := bw_of 481 (by decide +kernel) (by decide +kernel)
theorem cw_X0_remove : Cond.code yX0_remove cX0_remove 4 (some .int) ∈ bw := bw_of 482 (by decide +kernel) (by decide +kernel)
theorem ml_L_62 : Cond.methodLink RL 62 yX8_entry ∈ bw := bw_of 483 (by decide +kernel) (by decide +kernel)
theorem im_X8_entry : Cond.instanceMethod yX8_entry ∈ bw := bw_of 484 (by decide +kernel) (by decide +kernel)
theorem se_X8_entry : Cond.selects RX8 yX8_entry yX8_entry ∈ bw := bw_of 485 (by decide +kernel) (by decide +kernel)
theorem cw_X8_entry : Cond.code yX8_entry cX8_entry 3 (some .int) ∈ bw := bw_of 486 (by decide +kernel) (by decide +kernel)
theorem ml_X8_179 : Cond.methodLink RX8 179 yX0_flagsAt ∈ bw := bw_of 487 (by decide +kernel) (by decide +kernel)
theorem im_X0_flagsAt : Cond.instanceMethod yX0_flagsAt ∈ bw := bw_of 488 (by decide +kernel) (by decide +kernel)
theorem se_X0_flagsAt : Cond.selects RX0 yX0_flagsAt yX0_flagsAt ∈ bw := bw_of 489 (by decide +kernel) (by decide +kernel)
theorem cw_X0_flagsAt : Cond.code yX0_flagsAt cX0_flagsAt 2 (some .int) ∈ bw := bw_of 490 (by decide +kernel) (by decide +kernel)
theorem ml_X8_182 : Cond.methodLink RX8 182 yX0_wordAt ∈ bw := bw_of 491 (by decide +kernel) (by decide +kernel)
theorem im_X0_wordAt : Cond.instanceMethod yX0_wordAt ∈ bw := bw_of 492 (by decide +kernel) (by decide +kernel)
theorem se_X0_wordAt : Cond.selects RX0 yX0_wordAt yX0_wordAt ∈ bw := bw_of 493 (by decide +kernel) (by decide +kernel)
theorem cw_X0_wordAt : Cond.code yX0_wordAt cX0_wordAt 2 (some .int) ∈ bw := bw_of 494 (by decide +kernel) (by decide +kernel)
theorem ml_L_66 : Cond.methodLink RL 66 yX8_seen ∈ bw := bw_of 495 (by decide +kernel) (by decide +kernel)
theorem im_X8_seen : Cond.instanceMethod yX8_seen ∈ bw := bw_of 496 (by decide +kernel) (by decide +kernel)
theorem se_X8_seen : Cond.selects RX8 yX8_seen yX8_seen ∈ bw := bw_of 497 (by decide +kernel) (by decide +kernel)
theorem cw_X8_seen : Cond.code yX8_seen cX8_seen 5 (some .int) ∈ bw := bw_of 498 (by decide +kernel) (by decide +kernel)
theorem ml_X8_185 : Cond.methodLink RX8 185 yX8_isHoistFirst ∈ bw := bw_of 499 (by decide +kernel) (by decide +kernel)
theorem ml_X8_188 : Cond.methodLink RX8 188 yX1_takenFor ∈ bw := bw_of 500 (by decide +kernel) (by decide +kernel)
theorem ml_L_70 : Cond.methodLink RL 70 yX8_word ∈ bw := bw_of 501 (by decide +kernel) (by decide +kernel)
theorem im_X8_word : Cond.instanceMethod yX8_word ∈ bw := bw_of 502 (by decide +kernel) (by decide +kernel)
theorem se_X8_word : Cond.selects RX8 yX8_word yX8_word ∈ bw := bw_of 503 (by decide +kernel) (by decide +kernel)
theorem cw_X8_word : Cond.code yX8_word cX8_word 4 (some .int) ∈ bw := bw_of 504 (by decide +kernel) (by decide +kernel)
theorem ml_X8_192 : Cond.methodLink RX8 192 yX5_wordAt ∈ bw := bw_of 505 (by decide +kernel) (by decide +kernel)
theorem im_X5_wordAt : Cond.instanceMethod yX5_wordAt ∈ bw := bw_of 506 (by decide +kernel) (by decide +kernel)
theorem se_X5_wordAt : Cond.selects RX5 yX5_wordAt yX5_wordAt ∈ bw := bw_of 507 (by decide +kernel) (by decide +kernel)
theorem cw_X5_wordAt : Cond.code yX5_wordAt cX5_wordAt 2 (some .int) ∈ bw := bw_of 508 (by decide +kernel) (by decide +kernel)
theorem ml_L_74 : Cond.methodLink RL 74 yX8_known ∈ bw := bw_of 509 (by decide +kernel) (by decide +kernel)
theorem im_X8_known : Cond.instanceMethod yX8_known ∈ bw := bw_of 510 (by decide +kernel) (by decide +kernel)
theorem se_X8_known : Cond.selects RX8 yX8_known yX8_known ∈ bw := bw_of 511 (by decide +kernel) (by decide +kernel)
theorem cw_X8_known : Cond.code yX8_known cX8_known 2 (some .int) ∈ bw := bw_of 512 (by decide +kernel) (by decide +kernel)
theorem ml_X8_193 : Cond.methodLink RX8 193 yX5_countKnown ∈ bw := bw_of 513 (by decide +kernel) (by decide +kernel)
theorem im_X5_countKnown : Cond.instanceMethod yX5_countKnown ∈ bw := bw_of 514 (by decide +kernel) (by decide +kernel)
theorem se_X5_countKnown : Cond.selects RX5 yX5_countKnown yX5_countKnown ∈ bw := bw_of 515 (by decide +kernel) (by decide +kernel)
theorem cw_X5_countKnown : Cond.code yX5_countKnown cX5_countKnown 3 (some .int) ∈ bw := bw_of 516 (by decide +kernel) (by decide +kernel)
theorem ml_L_78 : Cond.methodLink RL 78 yX8_isSame ∈ bw := bw_of 517 (by decide +kernel) (by decide +kernel)
theorem im_X8_isSame : Cond.instanceMethod yX8_isSame ∈ bw := bw_of 518 (by decide +kernel) (by decide +kernel)
theorem se_X8_isSame : Cond.selects RX8 yX8_isSame yX8_isSame ∈ bw := bw_of 519 (by decide +kernel) (by decide +kernel)
theorem cw_X8_isSame : Cond.code yX8_isSame cX8_isSame 1 (some .int) ∈ bw := bw_of 520 (by decide +kernel) (by decide +kernel)
theorem ml_X8_196 : Cond.methodLink RX8 196 yX5_agreesWith ∈ bw := bw_of 521 (by decide +kernel) (by decide +kernel)
theorem im_X5_agreesWith : Cond.instanceMethod yX5_agreesWith ∈ bw := bw_of 522 (by decide +kernel) (by decide +kernel)
theorem se_X5_agreesWith : Cond.selects RX5 yX5_agreesWith yX5_agreesWith ∈ bw := bw_of 523 (by decide +kernel) (by decide +kernel)
theorem cw_X5_agreesWith : Cond.code yX5_agreesWith cX5_agreesWith 3 (some .boolean) ∈ bw := bw_of 524 (by decide +kernel) (by decide +kernel)
theorem ml_X5_46 : Cond.methodLink RX5 46 yX5_knowsAll ∈ bw := bw_of 525 (by decide +kernel) (by decide +kernel)
theorem im_X5_knowsAll : Cond.instanceMethod yX5_knowsAll ∈ bw := bw_of 526 (by decide +kernel) (by decide +kernel)
theorem se_X5_knowsAll : Cond.selects RX5 yX5_knowsAll yX5_knowsAll ∈ bw := bw_of 527 (by decide +kernel) (by decide +kernel)
theorem cw_X5_knowsAll : Cond.code yX5_knowsAll cX5_knowsAll 1 (some .boolean) ∈ bw := bw_of 528 (by decide +kernel) (by decide +kernel)
theorem ml_X5_42 : Cond.methodLink RX5 42 yX5_countKnown ∈ bw := bw_of 529 (by decide +kernel) (by decide +kernel)
theorem ml_L_82 : Cond.methodLink RL 82 yX8_sail ∈ bw := bw_of 530 (by decide +kernel) (by decide +kernel)
theorem im_X8_sail : Cond.instanceMethod yX8_sail ∈ bw := bw_of 531 (by decide +kernel) (by decide +kernel)
theorem se_X8_sail : Cond.selects RX8 yX8_sail yX8_sail ∈ bw := bw_of 532 (by decide +kernel) (by decide +kernel)
theorem cw_X8_sail : Cond.code yX8_sail cX8_sail 3 (some .int) ∈ bw := bw_of 533 (by decide +kernel) (by decide +kernel)
theorem ml_L_86 : Cond.methodLink RL 86 yX8_answer ∈ bw := bw_of 534 (by decide +kernel) (by decide +kernel)
theorem im_X8_answer : Cond.instanceMethod yX8_answer ∈ bw := bw_of 535 (by decide +kernel) (by decide +kernel)
theorem se_X8_answer : Cond.selects RX8 yX8_answer yX8_answer ∈ bw := bw_of 536 (by decide +kernel) (by decide +kernel)
theorem cw_X8_answer : Cond.code yX8_answer cX8_answer 1 (some .int) ∈ bw := bw_of 537 (by decide +kernel) (by decide +kernel)
theorem ml_X8_200 : Cond.methodLink RX8 200 yX3_countAll ∈ bw := bw_of 538 (by decide +kernel) (by decide +kernel)
theorem im_X3_countAll : Cond.instanceMethod yX3_countAll ∈ bw := bw_of 539 (by decide +kernel) (by decide +kernel)
theorem se_X3_countAll : Cond.selects RX3 yX3_countAll yX3_countAll ∈ bw := bw_of 540 (by decide +kernel) (by decide +kernel)
theorem cw_X3_countAll : Cond.code yX3_countAll cX3_countAll 3 (some .int) ∈ bw := bw_of 541 (by decide +kernel) (by decide +kernel)
theorem ml_X8_203 : Cond.methodLink RX8 203 yX5_knowsAll ∈ bw := bw_of 542 (by decide +kernel) (by decide +kernel)
theorem ml_L_90 : Cond.methodLink RL 90 yX8_logged ∈ bw := bw_of 543 (by decide +kernel) (by decide +kernel)
theorem im_X8_logged : Cond.instanceMethod yX8_logged ∈ bw := bw_of 544 (by decide +kernel) (by decide +kernel)
theorem se_X8_logged : Cond.selects RX8 yX8_logged yX8_logged ∈ bw := bw_of 545 (by decide +kernel) (by decide +kernel)
theorem cw_X8_logged : Cond.code yX8_logged cX8_logged 3 (some .int) ∈ bw := bw_of 546 (by decide +kernel) (by decide +kernel)
theorem ml_X8_207 : Cond.methodLink RX8 207 yX4_size ∈ bw := bw_of 547 (by decide +kernel) (by decide +kernel)
theorem im_X4_size : Cond.instanceMethod yX4_size ∈ bw := bw_of 548 (by decide +kernel) (by decide +kernel)
theorem se_X4_size : Cond.selects RX4 yX4_size yX4_size ∈ bw := bw_of 549 (by decide +kernel) (by decide +kernel)
theorem cw_X4_size : Cond.code yX4_size cX4_size 1 (some .int) ∈ bw := bw_of 550 (by decide +kernel) (by decide +kernel)
theorem ml_X8_208 : Cond.methodLink RX8 208 yX4_wordsOf ∈ bw := bw_of 551 (by decide +kernel) (by decide +kernel)
theorem im_X4_wordsOf : Cond.instanceMethod yX4_wordsOf ∈ bw := bw_of 552 (by decide +kernel) (by decide +kernel)
theorem se_X4_wordsOf : Cond.selects RX4 yX4_wordsOf yX4_wordsOf ∈ bw := bw_of 553 (by decide +kernel) (by decide +kernel)
theorem cw_X4_wordsOf : Cond.code yX4_wordsOf cX4_wordsOf 2 (some .int) ∈ bw := bw_of 554 (by decide +kernel) (by decide +kernel)
theorem ml_X8_211 : Cond.methodLink RX8 211 yX4_wordAt ∈ bw := bw_of 555 (by decide +kernel) (by decide +kernel)
theorem im_X4_wordAt : Cond.instanceMethod yX4_wordAt ∈ bw := bw_of 556 (by decide +kernel) (by decide +kernel)
theorem se_X4_wordAt : Cond.selects RX4 yX4_wordAt yX4_wordAt ∈ bw := bw_of 557 (by decide +kernel) (by decide +kernel)
theorem cw_X4_wordAt : Cond.code yX4_wordAt cX4_wordAt 3 (some .int) ∈ bw := bw_of 558 (by decide +kernel) (by decide +kernel)
theorem ml_L_94 : Cond.methodLink RL 94 yX8_total ∈ bw := bw_of 559 (by decide +kernel) (by decide +kernel)
theorem im_X8_total : Cond.instanceMethod yX8_total ∈ bw := bw_of 560 (by decide +kernel) (by decide +kernel)
theorem se_X8_total : Cond.selects RX8 yX8_total yX8_total ∈ bw := bw_of 561 (by decide +kernel) (by decide +kernel)
theorem cw_X8_total : Cond.code yX8_total cX8_total 2 (some .int) ∈ bw := bw_of 562 (by decide +kernel) (by decide +kernel)
theorem ml_X8_213 : Cond.methodLink RX8 213 yX3_countNotEmpty ∈ bw := bw_of 563 (by decide +kernel) (by decide +kernel)
theorem im_X3_countNotEmpty : Cond.instanceMethod yX3_countNotEmpty ∈ bw := bw_of 564 (by decide +kernel) (by decide +kernel)
theorem se_X3_countNotEmpty : Cond.selects RX3 yX3_countNotEmpty yX3_countNotEmpty ∈ bw := bw_of 565 (by decide +kernel) (by decide +kernel)
theorem cw_X3_countNotEmpty : Cond.code yX3_countNotEmpty cX3_countNotEmpty 3 (some .int) ∈ bw := bw_of 566 (by decide +kernel) (by decide +kernel)
theorem ml_X8_216 : Cond.methodLink RX8 216 yX4_countAll ∈ bw := bw_of 567 (by decide +kernel) (by decide +kernel)
theorem im_X4_countAll : Cond.instanceMethod yX4_countAll ∈ bw := bw_of 568 (by decide +kernel) (by decide +kernel)
theorem se_X4_countAll : Cond.selects RX4 yX4_countAll yX4_countAll ∈ bw := bw_of 569 (by decide +kernel) (by decide +kernel)
theorem cw_X4_countAll : Cond.code yX4_countAll cX4_countAll 1 (some .int) ∈ bw := bw_of 570 (by decide +kernel) (by decide +kernel)
theorem ml_L_98 : Cond.methodLink RL 98 yX8_leastWind ∈ bw := bw_of 571 (by decide +kernel) (by decide +kernel)
theorem im_X8_leastWind : Cond.instanceMethod yX8_leastWind ∈ bw := bw_of 572 (by decide +kernel) (by decide +kernel)
theorem se_X8_leastWind : Cond.selects RX8 yX8_leastWind yX8_leastWind ∈ bw := bw_of 573 (by decide +kernel) (by decide +kernel)
theorem cw_X8_leastWind : Cond.code yX8_leastWind cX8_leastWind 4 (some .int) ∈ bw := bw_of 574 (by decide +kernel) (by decide +kernel)
theorem ml_L_102 : Cond.methodLink RL 102 yX8_ifTurned ∈ bw := bw_of 575 (by decide +kernel) (by decide +kernel)
theorem im_X8_ifTurned : Cond.instanceMethod yX8_ifTurned ∈ bw := bw_of 576 (by decide +kernel) (by decide +kernel)
theorem se_X8_ifTurned : Cond.selects RX8 yX8_ifTurned yX8_ifTurned ∈ bw := bw_of 577 (by decide +kernel) (by decide +kernel)
theorem cw_X8_ifTurned : Cond.code yX8_ifTurned cX8_ifTurned 3 (some .int) ∈ bw := bw_of 578 (by decide +kernel) (by decide +kernel)
theorem ml_L_106 : Cond.methodLink RL 106 yX8_mendingExchange ∈ bw := bw_of 579 (by decide +kernel) (by decide +kernel)
theorem im_X8_mendingExchange : Cond.instanceMethod yX8_mendingExchange ∈ bw := bw_of 580 (by decide +kernel) (by decide +kernel)
theorem se_X8_mendingExchange : Cond.selects RX8 yX8_mendingExchange yX8_mendingExchange ∈ bw := bw_of 581 (by decide +kernel) (by decide +kernel)
theorem cw_X8_mendingExchange : Cond.code yX8_mendingExchange cX8_mendingExchange 3 (some .int) ∈ bw := bw_of 582 (by decide +kernel) (by decide +kernel)
theorem ml_X8_224 : Cond.methodLink RX8 224 yX5_arrange ∈ bw := bw_of 583 (by decide +kernel) (by decide +kernel)
theorem ml_L_110 : Cond.methodLink RL 110 yX8_bestEntry ∈ bw := bw_of 584 (by decide +kernel) (by decide +kernel)
theorem im_X8_bestEntry : Cond.instanceMethod yX8_bestEntry ∈ bw := bw_of 585 (by decide +kernel) (by decide +kernel)
theorem se_X8_bestEntry : Cond.selects RX8 yX8_bestEntry yX8_bestEntry ∈ bw := bw_of 586 (by decide +kernel) (by decide +kernel)
theorem cw_X8_bestEntry : Cond.code yX8_bestEntry cX8_bestEntry 7 (some .int) ∈ bw := bw_of 587 (by decide +kernel) (by decide +kernel)
theorem ml_X8_227 : Cond.methodLink RX8 227 yX8_lengthOf ∈ bw := bw_of 588 (by decide +kernel) (by decide +kernel)
theorem sm_X8_lengthOf : Cond.static yX8_lengthOf ∈ bw := bw_of 589 (by decide +kernel) (by decide +kernel)
theorem cw_X8_lengthOf : Cond.code yX8_lengthOf cX8_lengthOf 3 (some .int) ∈ bw := bw_of 590 (by decide +kernel) (by decide +kernel)
theorem ml_X8_230 : Cond.methodLink RX8 230 yX8_isKnownAsItself ∈ bw := bw_of 591 (by decide +kernel) (by decide +kernel)
theorem im_X8_isKnownAsItself : Cond.instanceMethod yX8_isKnownAsItself ∈ bw := bw_of 593 (by decide +kernel) (by decide +kernel)
theorem cw_X8_isKnownAsItself : Cond.code yX8_isKnownAsItself cX8_isKnownAsItself 6 (some .boolean) ∈ bw := bw_of 594 (by decide +kernel) (by decide +kernel)
theorem ml_L_114 : Cond.methodLink RL 114 yX8_append ∈ bw := bw_of 595 (by decide +kernel) (by decide +kernel)
theorem im_X8_append : Cond.instanceMethod yX8_append ∈ bw := bw_of 596 (by decide +kernel) (by decide +kernel)
theorem se_X8_append : Cond.selects RX8 yX8_append yX8_append ∈ bw := bw_of 597 (by decide +kernel) (by decide +kernel)
theorem cw_X8_append : Cond.code yX8_append cX8_append 2 (some .int) ∈ bw := bw_of 598 (by decide +kernel) (by decide +kernel)
theorem ml_X8_233 : Cond.methodLink RX8 233 yX7_size ∈ bw := bw_of 599 (by decide +kernel) (by decide +kernel)
theorem im_X7_size : Cond.instanceMethod yX7_size ∈ bw := bw_of 600 (by decide +kernel) (by decide +kernel)
theorem se_X7_size : Cond.selects RX7 yX7_size yX7_size ∈ bw := bw_of 601 (by decide +kernel) (by decide +kernel)
theorem cw_X7_size : Cond.code yX7_size cX7_size 1 (some .int) ∈ bw := bw_of 602 (by decide +kernel) (by decide +kernel)
theorem ml_X8_234 : Cond.methodLink RX8 234 yX7_add ∈ bw := bw_of 603 (by decide +kernel) (by decide +kernel)
theorem im_X7_add : Cond.instanceMethod yX7_add ∈ bw := bw_of 604 (by decide +kernel) (by decide +kernel)
theorem se_X7_add : Cond.selects RX7 yX7_add yX7_add ∈ bw := bw_of 605 (by decide +kernel) (by decide +kernel)
theorem cw_X7_add : Cond.code yX7_add cX7_add 2 none ∈ bw := bw_of 606 (by decide +kernel) (by decide +kernel)
theorem ml_L_118 : Cond.methodLink RL 118 yX8_clearText ∈ bw := bw_of 608 (by decide +kernel) (by decide +kernel)
theorem im_X8_clearText : Cond.instanceMethod yX8_clearText ∈ bw := bw_of 609 (by decide +kernel) (by decide +kernel)
theorem se_X8_clearText : Cond.selects RX8 yX8_clearText yX8_clearText ∈ bw := bw_of 610 (by decide +kernel) (by decide +kernel)
theorem cw_X8_clearText : Cond.code yX8_clearText cX8_clearText 2 (some .int) ∈ bw := bw_of 611 (by decide +kernel) (by decide +kernel)
theorem ml_X8_236 : Cond.methodLink RX8 236 yX7_clear ∈ bw := bw_of 612 (by decide +kernel) (by decide +kernel)
theorem im_X7_clear : Cond.instanceMethod yX7_clear ∈ bw := bw_of 613 (by decide +kernel) (by decide +kernel)
theorem se_X7_clear : Cond.selects RX7 yX7_clear yX7_clear ∈ bw := bw_of 614 (by decide +kernel) (by decide +kernel)
theorem cw_X7_clear : Cond.code yX7_clear cX7_clear 1 none ∈ bw := bw_of 615 (by decide +kernel) (by decide +kernel)
theorem ml_L_122 : Cond.methodLink RL 122 yX8_errorPosition ∈ bw := bw_of 616 (by decide +kernel) (by decide +kernel)
theorem im_X8_errorPosition : Cond.instanceMethod yX8_errorPosition ∈ bw := bw_of 617 (by decide +kernel) (by decide +kernel)
theorem se_X8_errorPosition : Cond.selects RX8 yX8_errorPosition yX8_errorPosition ∈ bw := bw_of 618 (by decide +kernel) (by decide +kernel)
theorem cw_X8_errorPosition : Cond.code yX8_errorPosition cX8_errorPosition 1 (some .int) ∈ bw := bw_of 619 (by decide +kernel) (by decide +kernel)
theorem ml_X8_237 : Cond.methodLink RX8 237 yX7_parse ∈ bw := bw_of 620 (by decide +kernel) (by decide +kernel)
theorem im_X7_parse : Cond.instanceMethod yX7_parse ∈ bw := bw_of 621 (by decide +kernel) (by decide +kernel)
theorem se_X7_parse : Cond.selects RX7 yX7_parse yX7_parse ∈ bw := bw_of 622 (by decide +kernel) (by decide +kernel)
theorem cw_X7_parse : Cond.code yX7_parse cX7_parse 2 (some .int) ∈ bw := bw_of 623 (by decide +kernel) (by decide +kernel)
theorem ml_X7_36 : Cond.methodLink RX7 36 yX3_clear ∈ bw := bw_of 624 (by decide +kernel) (by decide +kernel)
theorem ml_X7_39 : Cond.methodLink RX7 39 yX7_accept ∈ bw := bw_of 625 (by decide +kernel) (by decide +kernel)
theorem im_X7_accept : Cond.instanceMethod yX7_accept ∈ bw := bw_of 627 (by decide +kernel) (by decide +kernel)
theorem cw_X7_accept : Cond.code yX7_accept cX7_accept 2 (some .boolean) ∈ bw := bw_of 628 (by decide +kernel) (by decide +kernel)
theorem ml_X7_43 : Cond.methodLink RX7 43 yX7_acceptHalyard ∈ bw := bw_of 629 (by decide +kernel) (by decide +kernel)
theorem im_X7_acceptHalyard : Cond.instanceMethod yX7_acceptHalyard ∈ bw := bw_of 631 (by decide +kernel) (by decide +kernel)
theorem cw_X7_acceptHalyard : Cond.code yX7_acceptHalyard cX7_acceptHalyard 2 (some .boolean) ∈ bw := bw_of 632 (by decide +kernel) (by decide +kernel)
theorem ml_X7_46 : Cond.methodLink RX7 46 yX7_acceptFlag ∈ bw := bw_of 633 (by decide +kernel) (by decide +kernel)
theorem im_X7_acceptFlag : Cond.instanceMethod yX7_acceptFlag ∈ bw := bw_of 635 (by decide +kernel) (by decide +kernel)
theorem cw_X7_acceptFlag : Cond.code yX7_acceptFlag cX7_acceptFlag 2 (some .boolean) ∈ bw := bw_of 636 (by decide +kernel) (by decide +kernel)
theorem ml_X7_55 : Cond.methodLink RX7 55 yX3_sizeOf ∈ bw := bw_of 637 (by decide +kernel) (by decide +kernel)
theorem ml_X7_59 : Cond.methodLink RX7 59 yX3_add ∈ bw := bw_of 638 (by decide +kernel) (by decide +kernel)
theorem ml_X7_49 : Cond.methodLink RX7 49 yX7_acceptMore ∈ bw := bw_of 639 (by decide +kernel) (by decide +kernel)
theorem im_X7_acceptMore : Cond.instanceMethod yX7_acceptMore ∈ bw := bw_of 641 (by decide +kernel) (by decide +kernel)
theorem cw_X7_acceptMore : Cond.code yX7_acceptMore cX7_acceptMore 2 (some .boolean) ∈ bw := bw_of 642 (by decide +kernel) (by decide +kernel)
theorem ml_X7_52 : Cond.methodLink RX7 52 yX7_acceptPennant ∈ bw := bw_of 643 (by decide +kernel) (by decide +kernel)
theorem im_X7_acceptPennant : Cond.instanceMethod yX7_acceptPennant ∈ bw := bw_of 645 (by decide +kernel) (by decide +kernel)
theorem cw_X7_acceptPennant : Cond.code yX7_acceptPennant cX7_acceptPennant 2 (some .boolean) ∈ bw := bw_of 646 (by decide +kernel) (by decide +kernel)
theorem ml_L_126 : Cond.methodLink RL 126 yX8_hoist ∈ bw := bw_of 647 (by decide +kernel) (by decide +kernel)
theorem im_X8_hoist : Cond.instanceMethod yX8_hoist ∈ bw := bw_of 648 (by decide +kernel) (by decide +kernel)
theorem se_X8_hoist : Cond.selects RX8 yX8_hoist yX8_hoist ∈ bw := bw_of 649 (by decide +kernel) (by decide +kernel)
theorem cw_X8_hoist : Cond.code yX8_hoist cX8_hoist 1 (some .int) ∈ bw := bw_of 650 (by decide +kernel) (by decide +kernel)
theorem ml_X8_241 : Cond.methodLink RX8 241 yX3_copyFrom ∈ bw := bw_of 651 (by decide +kernel) (by decide +kernel)
theorem ml_L_130 : Cond.methodLink RL 130 yX8_undo ∈ bw := bw_of 652 (by decide +kernel) (by decide +kernel)
theorem im_X8_undo : Cond.instanceMethod yX8_undo ∈ bw := bw_of 653 (by decide +kernel) (by decide +kernel)
theorem se_X8_undo : Cond.selects RX8 yX8_undo yX8_undo ∈ bw := bw_of 654 (by decide +kernel) (by decide +kernel)
theorem cw_X8_undo : Cond.code yX8_undo cX8_undo 1 (some .int) ∈ bw := bw_of 655 (by decide +kernel) (by decide +kernel)
theorem ml_X8_245 : Cond.methodLink RX8 245 yX2_size ∈ bw := bw_of 656 (by decide +kernel) (by decide +kernel)
theorem im_X2_size : Cond.instanceMethod yX2_size ∈ bw := bw_of 657 (by decide +kernel) (by decide +kernel)
theorem se_X2_size : Cond.selects RX2 yX2_size yX2_size ∈ bw := bw_of 658 (by decide +kernel) (by decide +kernel)
theorem cw_X2_size : Cond.code yX2_size cX2_size 1 (some .int) ∈ bw := bw_of 659 (by decide +kernel) (by decide +kernel)
theorem ml_X8_246 : Cond.methodLink RX8 246 yX2_takeBack ∈ bw := bw_of 660 (by decide +kernel) (by decide +kernel)
theorem im_X2_takeBack : Cond.instanceMethod yX2_takeBack ∈ bw := bw_of 661 (by decide +kernel) (by decide +kernel)
theorem se_X2_takeBack : Cond.selects RX2 yX2_takeBack yX2_takeBack ∈ bw := bw_of 662 (by decide +kernel) (by decide +kernel)
theorem cw_X2_takeBack : Cond.code yX2_takeBack cX2_takeBack 4 none ∈ bw := bw_of 663 (by decide +kernel) (by decide +kernel)
theorem ml_L_134 : Cond.methodLink RL 134 yX8_save ∈ bw := bw_of 664 (by decide +kernel) (by decide +kernel)
theorem im_X8_save : Cond.instanceMethod yX8_save ∈ bw := bw_of 665 (by decide +kernel) (by decide +kernel)
theorem se_X8_save : Cond.selects RX8 yX8_save yX8_save ∈ bw := bw_of 666 (by decide +kernel) (by decide +kernel)
theorem cw_X8_save : Cond.code yX8_save cX8_save 1 (some .int) ∈ bw := bw_of 667 (by decide +kernel) (by decide +kernel)
theorem ml_X8_249 : Cond.methodLink RX8 249 yX6_copyFrom ∈ bw := bw_of 668 (by decide +kernel) (by decide +kernel)
theorem ml_L_138 : Cond.methodLink RL 138 yX8_restore ∈ bw := bw_of 669 (by decide +kernel) (by decide +kernel)
theorem im_X8_restore : Cond.instanceMethod yX8_restore ∈ bw := bw_of 670 (by decide +kernel) (by decide +kernel)
theorem se_X8_restore : Cond.selects RX8 yX8_restore yX8_restore ∈ bw := bw_of 671 (by decide +kernel) (by decide +kernel)
theorem cw_X8_restore : Cond.code yX8_restore cX8_restore 1 (some .int) ∈ bw := bw_of 672 (by decide +kernel) (by decide +kernel)
theorem cl_L_10 : Cond.classLink RL 10 RX9 ∈ bw := bw_of 673 (by decide +kernel) (by decide +kernel)
theorem ib_X9 : Cond.instantiable RX9 11 ∈ bw := bw_of 674 (by decide +kernel) (by decide +kernel)
theorem ml_L_12 : Cond.methodLink RL 12 yX9_init ∈ bw := bw_of 675 (by decide +kernel) (by decide +kernel)
theorem im_X9_init : Cond.instanceMethod yX9_init ∈ bw := bw_of 676 (by decide +kernel) (by decide +kernel)
theorem cw_X9_init : Cond.code yX9_init cX9_init 2 none ∈ bw := bw_of 677 (by decide +kernel) (by decide +kernel)
theorem ml_X9_1 : Cond.methodLink RX9 1 objectInit ∈ bw := bw_of 678 (by decide +kernel) (by decide +kernel)
theorem fl_X9_7 : Cond.fieldLink RX9 7 "MastFlagsModel" "z" "[I" ∈ bw := bw_of 679 (by decide +kernel) (by decide +kernel)
theorem fl_X9_13 : Cond.fieldLink RX9 13 "MastFlagsModel" "past" "[I" ∈ bw := bw_of 680 (by decide +kernel) (by decide +kernel)
theorem fl_X9_30 : Cond.fieldLink RX9 30 "MastFlagsModel" "pastMany" "I" ∈ bw := bw_of 681 (by decide +kernel) (by decide +kernel)
theorem fl_X9_16 : Cond.fieldLink RX9 16 "MastFlagsModel" "kept" "[I" ∈ bw := bw_of 682 (by decide +kernel) (by decide +kernel)
theorem fl_X9_41 : Cond.fieldLink RX9 41 "MastFlagsModel" "isKept" "Z" ∈ bw := bw_of 683 (by decide +kernel) (by decide +kernel)
theorem fl_X9_19 : Cond.fieldLink RX9 19 "MastFlagsModel" "buffer" "[C" ∈ bw := bw_of 684 (by decide +kernel) (by decide +kernel)
theorem fl_X9_143 : Cond.fieldLink RX9 143 "MastFlagsModel" "typed" "I" ∈ bw := bw_of 685 (by decide +kernel) (by decide +kernel)
theorem fl_X9_23 : Cond.fieldLink RX9 23 "MastFlagsModel" "told" "[I" ∈ bw := bw_of 686 (by decide +kernel) (by decide +kernel)
theorem fl_X9_165 : Cond.fieldLink RX9 165 "MastFlagsModel" "last" "I" ∈ bw := bw_of 687 (by decide +kernel) (by decide +kernel)
theorem fl_X9_146 : Cond.fieldLink RX9 146 "MastFlagsModel" "spot" "I" ∈ bw := bw_of 688 (by decide +kernel) (by decide +kernel)
theorem fl_X9_149 : Cond.fieldLink RX9 149 "MastFlagsModel" "wrong" "I" ∈ bw := bw_of 689 (by decide +kernel) (by decide +kernel)
theorem ac_char : Cond.arrayClass .char ∈ bw := bw_of 713 (by decide +kernel) (by decide +kernel)
theorem ml_L_133 : Cond.methodLink RL 133 yX9_undo ∈ bw := bw_of 714 (by decide +kernel) (by decide +kernel)
theorem im_X9_undo : Cond.instanceMethod yX9_undo ∈ bw := bw_of 715 (by decide +kernel) (by decide +kernel)
theorem se_X9_undo : Cond.selects RX9 yX9_undo yX9_undo ∈ bw := bw_of 716 (by decide +kernel) (by decide +kernel)
theorem cw_X9_undo : Cond.code yX9_undo cX9_undo 2 (some .int) ∈ bw := bw_of 717 (by decide +kernel) (by decide +kernel)
theorem ml_L_137 : Cond.methodLink RL 137 yX9_save ∈ bw := bw_of 718 (by decide +kernel) (by decide +kernel)
theorem im_X9_save : Cond.instanceMethod yX9_save ∈ bw := bw_of 719 (by decide +kernel) (by decide +kernel)
theorem se_X9_save : Cond.selects RX9 yX9_save yX9_save ∈ bw := bw_of 720 (by decide +kernel) (by decide +kernel)
theorem cw_X9_save : Cond.code yX9_save cX9_save 2 (some .int) ∈ bw := bw_of 721 (by decide +kernel) (by decide +kernel)
theorem ml_X9_45 : Cond.methodLink RX9 45 yX9_allSigns ∈ bw := bw_of 722 (by decide +kernel) (by decide +kernel)
theorem im_X9_allSigns : Cond.instanceMethod yX9_allSigns ∈ bw := bw_of 724 (by decide +kernel) (by decide +kernel)
theorem cw_X9_allSigns : Cond.code yX9_allSigns cX9_allSigns 3 (some .int) ∈ bw := bw_of 725 (by decide +kernel) (by decide +kernel)
theorem ml_X9_37 : Cond.methodLink RX9 37 yX9_many ∈ bw := bw_of 726 (by decide +kernel) (by decide +kernel)
theorem im_X9_many : Cond.instanceMethod yX9_many ∈ bw := bw_of 728 (by decide +kernel) (by decide +kernel)
theorem cw_X9_many : Cond.code yX9_many cX9_many 2 (some .int) ∈ bw := bw_of 729 (by decide +kernel) (by decide +kernel)
theorem ml_L_141 : Cond.methodLink RL 141 yX9_restore ∈ bw := bw_of 730 (by decide +kernel) (by decide +kernel)
theorem im_X9_restore : Cond.instanceMethod yX9_restore ∈ bw := bw_of 731 (by decide +kernel) (by decide +kernel)
theorem se_X9_restore : Cond.selects RX9 yX9_restore yX9_restore ∈ bw := bw_of 732 (by decide +kernel) (by decide +kernel)
theorem cw_X9_restore : Cond.code yX9_restore cX9_restore 2 (some .int) ∈ bw := bw_of 733 (by decide +kernel) (by decide +kernel)
theorem ml_X9_34 : Cond.methodLink RX9 34 yX9_record ∈ bw := bw_of 734 (by decide +kernel) (by decide +kernel)
theorem im_X9_record : Cond.instanceMethod yX9_record ∈ bw := bw_of 736 (by decide +kernel) (by decide +kernel)
theorem cw_X9_record : Cond.code yX9_record cX9_record 2 none ∈ bw := bw_of 737 (by decide +kernel) (by decide +kernel)
theorem ml_L_17 : Cond.methodLink RL 17 yX9_paint ∈ bw := bw_of 738 (by decide +kernel) (by decide +kernel)
theorem im_X9_paint : Cond.instanceMethod yX9_paint ∈ bw := bw_of 739 (by decide +kernel) (by decide +kernel)
theorem se_X9_paint : Cond.selects RX9 yX9_paint yX9_paint ∈ bw := bw_of 740 (by decide +kernel) (by decide +kernel)
theorem cw_X9_paint : Cond.code yX9_paint cX9_paint 7 (some .int) ∈ bw := bw_of 741 (by decide +kernel) (by decide +kernel)
theorem ml_X9_53 : Cond.methodLink RX9 53 yX9_isFlag ∈ bw := bw_of 742 (by decide +kernel) (by decide +kernel)
theorem sm_X9_isFlag : Cond.static yX9_isFlag ∈ bw := bw_of 743 (by decide +kernel) (by decide +kernel)
theorem cw_X9_isFlag : Cond.code yX9_isFlag cX9_isFlag 1 (some .boolean) ∈ bw := bw_of 744 (by decide +kernel) (by decide +kernel)
theorem ml_X9_26 : Cond.methodLink RX9 26 yX9_in ∈ bw := bw_of 745 (by decide +kernel) (by decide +kernel)
theorem sm_X9_in : Cond.static yX9_in ∈ bw := bw_of 746 (by decide +kernel) (by decide +kernel)
theorem cw_X9_in : Cond.code yX9_in cX9_in 3 (some .boolean) ∈ bw := bw_of 747 (by decide +kernel) (by decide +kernel)
theorem ml_X9_57 : Cond.methodLink RX9 57 yX9_recordAndDown ∈ bw := bw_of 748 (by decide +kernel) (by decide +kernel)
theorem im_X9_recordAndDown : Cond.instanceMethod yX9_recordAndDown ∈ bw := bw_of 750 (by decide +kernel) (by decide +kernel)
theorem cw_X9_recordAndDown : Cond.code yX9_recordAndDown cX9_recordAndDown 1 none ∈ bw := bw_of 751 (by decide +kernel) (by decide +kernel)
theorem ml_X9_49 : Cond.methodLink RX9 49 yX9_ofFlag ∈ bw := bw_of 752 (by decide +kernel) (by decide +kernel)
theorem im_X9_ofFlag : Cond.instanceMethod yX9_ofFlag ∈ bw := bw_of 754 (by decide +kernel) (by decide +kernel)
theorem cw_X9_ofFlag : Cond.code yX9_ofFlag cX9_ofFlag 3 (some .int) ∈ bw := bw_of 755 (by decide +kernel) (by decide +kernel)
theorem ml_L_22 : Cond.methodLink RL 22 yX9_setStock ∈ bw := bw_of 756 (by decide +kernel) (by decide +kernel)
theorem im_X9_setStock : Cond.instanceMethod yX9_setStock ∈ bw := bw_of 757 (by decide +kernel) (by decide +kernel)
theorem se_X9_setStock : Cond.selects RX9 yX9_setStock yX9_setStock ∈ bw := bw_of 758 (by decide +kernel) (by decide +kernel)
theorem cw_X9_setStock : Cond.code yX9_setStock cX9_setStock 3 (some .int) ∈ bw := bw_of 759 (by decide +kernel) (by decide +kernel)
theorem ml_X9_66 : Cond.methodLink RX9 66 yX9_mostUsed ∈ bw := bw_of 760 (by decide +kernel) (by decide +kernel)
theorem im_X9_mostUsed : Cond.instanceMethod yX9_mostUsed ∈ bw := bw_of 762 (by decide +kernel) (by decide +kernel)
theorem cw_X9_mostUsed : Cond.code yX9_mostUsed cX9_mostUsed 3 (some .int) ∈ bw := bw_of 763 (by decide +kernel) (by decide +kernel)
theorem ml_X9_63 : Cond.methodLink RX9 63 yX9_used ∈ bw := bw_of 764 (by decide +kernel) (by decide +kernel)
theorem im_X9_used : Cond.instanceMethod yX9_used ∈ bw := bw_of 766 (by decide +kernel) (by decide +kernel)
theorem cw_X9_used : Cond.code yX9_used cX9_used 5 (some .int) ∈ bw := bw_of 767 (by decide +kernel) (by decide +kernel)
theorem ml_X9_60 : Cond.methodLink RX9 60 yX9_signOn ∈ bw := bw_of 768 (by decide +kernel) (by decide +kernel)
theorem im_X9_signOn : Cond.instanceMethod yX9_signOn ∈ bw := bw_of 770 (by decide +kernel) (by decide +kernel)
theorem cw_X9_signOn : Cond.code yX9_signOn cX9_signOn 3 (some .int) ∈ bw := bw_of 771 (by decide +kernel) (by decide +kernel)
theorem ml_L_27 : Cond.methodLink RL 27 yX9_setWind ∈ bw := bw_of 772 (by decide +kernel) (by decide +kernel)
theorem im_X9_setWind : Cond.instanceMethod yX9_setWind ∈ bw := bw_of 773 (by decide +kernel) (by decide +kernel)
theorem se_X9_setWind : Cond.selects RX9 yX9_setWind yX9_setWind ∈ bw := bw_of 774 (by decide +kernel) (by decide +kernel)
theorem cw_X9_setWind : Cond.code yX9_setWind cX9_setWind 4 (some .int) ∈ bw := bw_of 775 (by decide +kernel) (by decide +kernel)
theorem ml_X9_69 : Cond.methodLink RX9 69 yX9_isSide ∈ bw := bw_of 776 (by decide +kernel) (by decide +kernel)
theorem sm_X9_isSide : Cond.static yX9_isSide ∈ bw := bw_of 777 (by decide +kernel) (by decide +kernel)
theorem cw_X9_isSide : Cond.code yX9_isSide cX9_isSide 1 (some .boolean) ∈ bw := bw_of 778 (by decide +kernel) (by decide +kernel)
theorem ml_L_31 : Cond.methodLink RL 31 yX9_flag ∈ bw := bw_of 779 (by decide +kernel) (by decide +kernel)
theorem im_X9_flag : Cond.instanceMethod yX9_flag ∈ bw := bw_of 780 (by decide +kernel) (by decide +kernel)
theorem se_X9_flag : Cond.selects RX9 yX9_flag yX9_flag ∈ bw := bw_of 781 (by decide +kernel) (by decide +kernel)
theorem cw_X9_flag : Cond.code yX9_flag cX9_flag 3 (some .int) ∈ bw := bw_of 782 (by decide +kernel) (by decide +kernel)
theorem ml_X9_72 : Cond.methodLink RX9 72 yX9_flagWith ∈ bw := bw_of 783 (by decide +kernel) (by decide +kernel)
theorem im_X9_flagWith : Cond.instanceMethod yX9_flagWith ∈ bw := bw_of 785 (by decide +kernel) (by decide +kernel)
theorem cw_X9_flagWith : Cond.code yX9_flagWith cX9_flagWith 5 (some .int) ∈ bw := bw_of 786 (by decide +kernel) (by decide +kernel)
theorem ml_L_35 : Cond.methodLink RL 35 yX9_bend ∈ bw := bw_of 787 (by decide +kernel) (by decide +kernel)
theorem im_X9_bend : Cond.instanceMethod yX9_bend ∈ bw := bw_of 788 (by decide +kernel) (by decide +kernel)
theorem se_X9_bend : Cond.selects RX9 yX9_bend yX9_bend ∈ bw := bw_of 789 (by decide +kernel) (by decide +kernel)
theorem cw_X9_bend : Cond.code yX9_bend cX9_bend 3 (some .int) ∈ bw := bw_of 790 (by decide +kernel) (by decide +kernel)
theorem ml_X9_75 : Cond.methodLink RX9 75 yX9_isHalyard ∈ bw := bw_of 791 (by decide +kernel) (by decide +kernel)
theorem sm_X9_isHalyard : Cond.static yX9_isHalyard ∈ bw := bw_of 792 (by decide +kernel) (by decide +kernel)
theorem cw_X9_isHalyard : Cond.code yX9_isHalyard cX9_isHalyard 1 (some .boolean) ∈ bw := bw_of 793 (by decide +kernel) (by decide +kernel)
theorem ml_X9_78 : Cond.methodLink RX9 78 yX9_isSign ∈ bw := bw_of 794 (by decide +kernel) (by decide +kernel)
theorem sm_X9_isSign : Cond.static yX9_isSign ∈ bw := bw_of 795 (by decide +kernel) (by decide +kernel)
theorem cw_X9_isSign : Cond.code yX9_isSign cX9_isSign 1 (some .boolean) ∈ bw := bw_of 796 (by decide +kernel) (by decide +kernel)
theorem ml_X9_81 : Cond.methodLink RX9 81 yX9_putOn ∈ bw := bw_of 797 (by decide +kernel) (by decide +kernel)
theorem im_X9_putOn : Cond.instanceMethod yX9_putOn ∈ bw := bw_of 799 (by decide +kernel) (by decide +kernel)
theorem cw_X9_putOn : Cond.code yX9_putOn cX9_putOn 3 none ∈ bw := bw_of 800 (by decide +kernel) (by decide +kernel)
theorem ml_L_39 : Cond.methodLink RL 39 yX9_unbend ∈ bw := bw_of 801 (by decide +kernel) (by decide +kernel)
theorem im_X9_unbend : Cond.instanceMethod yX9_unbend ∈ bw := bw_of 802 (by decide +kernel) (by decide +kernel)
theorem se_X9_unbend : Cond.selects RX9 yX9_unbend yX9_unbend ∈ bw := bw_of 803 (by decide +kernel) (by decide +kernel)
theorem cw_X9_unbend : Cond.code yX9_unbend cX9_unbend 2 (some .int) ∈ bw := bw_of 804 (by decide +kernel) (by decide +kernel)
theorem ml_L_43 : Cond.methodLink RL 43 yX9_exchange ∈ bw := bw_of 805 (by decide +kernel) (by decide +kernel)
theorem im_X9_exchange : Cond.instanceMethod yX9_exchange ∈ bw := bw_of 806 (by decide +kernel) (by decide +kernel)
theorem se_X9_exchange : Cond.selects RX9 yX9_exchange yX9_exchange ∈ bw := bw_of 807 (by decide +kernel) (by decide +kernel)
theorem cw_X9_exchange : Cond.code yX9_exchange cX9_exchange 3 (some .int) ∈ bw := bw_of 808 (by decide +kernel) (by decide +kernel)
theorem ml_X9_85 : Cond.methodLink RX9 85 yX9_swaps ∈ bw := bw_of 809 (by decide +kernel) (by decide +kernel)
theorem im_X9_swaps : Cond.instanceMethod yX9_swaps ∈ bw := bw_of 811 (by decide +kernel) (by decide +kernel)
theorem cw_X9_swaps : Cond.code yX9_swaps cX9_swaps 5 none ∈ bw := bw_of 812 (by decide +kernel) (by decide +kernel)
theorem ml_L_48 : Cond.methodLink RL 48 yX9_lower ∈ bw := bw_of 813 (by decide +kernel) (by decide +kernel)
theorem im_X9_lower : Cond.instanceMethod yX9_lower ∈ bw := bw_of 814 (by decide +kernel) (by decide +kernel)
theorem se_X9_lower : Cond.selects RX9 yX9_lower yX9_lower ∈ bw := bw_of 815 (by decide +kernel) (by decide +kernel)
theorem cw_X9_lower : Cond.code yX9_lower cX9_lower 2 (some .int) ∈ bw := bw_of 816 (by decide +kernel) (by decide +kernel)
theorem ml_X9_88 : Cond.methodLink RX9 88 yX9_hoists ∈ bw := bw_of 817 (by decide +kernel) (by decide +kernel)
theorem im_X9_hoists : Cond.instanceMethod yX9_hoists ∈ bw := bw_of 819 (by decide +kernel) (by decide +kernel)
theorem cw_X9_hoists : Cond.code yX9_hoists cX9_hoists 3 (some .int) ∈ bw := bw_of 820 (by decide +kernel) (by decide +kernel)
theorem ml_X9_94 : Cond.methodLink RX9 94 yX9_logs ∈ bw := bw_of 821 (by decide +kernel) (by decide +kernel)
theorem im_X9_logs : Cond.instanceMethod yX9_logs ∈ bw := bw_of 823 (by decide +kernel) (by decide +kernel)
theorem cw_X9_logs : Cond.code yX9_logs cX9_logs 3 none ∈ bw := bw_of 824 (by decide +kernel) (by decide +kernel)
theorem ml_X9_91 : Cond.methodLink RX9 91 yX9_wordAt ∈ bw := bw_of 825 (by decide +kernel) (by decide +kernel)
theorem im_X9_wordAt : Cond.instanceMethod yX9_wordAt ∈ bw := bw_of 827 (by decide +kernel) (by decide +kernel)
theorem cw_X9_wordAt : Cond.code yX9_wordAt cX9_wordAt 6 (some .int) ∈ bw := bw_of 828 (by decide +kernel) (by decide +kernel)
theorem ml_X9_125 : Cond.methodLink RX9 125 yX9_read ∈ bw := bw_of 829 (by decide +kernel) (by decide +kernel)
theorem im_X9_read : Cond.instanceMethod yX9_read ∈ bw := bw_of 831 (by decide +kernel) (by decide +kernel)
theorem cw_X9_read : Cond.code yX9_read cX9_read 6 (some .int) ∈ bw := bw_of 832 (by decide +kernel) (by decide +kernel)
theorem ml_X9_104 : Cond.methodLink RX9 104 yX9_flagOn ∈ bw := bw_of 833 (by decide +kernel) (by decide +kernel)
theorem im_X9_flagOn : Cond.instanceMethod yX9_flagOn ∈ bw := bw_of 835 (by decide +kernel) (by decide +kernel)
theorem cw_X9_flagOn : Cond.code yX9_flagOn cX9_flagOn 4 (some .int) ∈ bw := bw_of 836 (by decide +kernel) (by decide +kernel)
theorem ml_X9_122 : Cond.methodLink RX9 122 yX9_taken ∈ bw := bw_of 837 (by decide +kernel) (by decide +kernel)
theorem im_X9_taken : Cond.instanceMethod yX9_taken ∈ bw := bw_of 839 (by decide +kernel) (by decide +kernel)
theorem cw_X9_taken : Cond.code yX9_taken cX9_taken 4 (some .int) ∈ bw := bw_of 840 (by decide +kernel) (by decide +kernel)
theorem ml_X9_107 : Cond.methodLink RX9 107 yX9_droops ∈ bw := bw_of 841 (by decide +kernel) (by decide +kernel)
theorem im_X9_droops : Cond.instanceMethod yX9_droops ∈ bw := bw_of 843 (by decide +kernel) (by decide +kernel)
theorem cw_X9_droops : Cond.code yX9_droops cX9_droops 2 (some .boolean) ∈ bw := bw_of 844 (by decide +kernel) (by decide +kernel)
theorem ml_X9_119 : Cond.methodLink RX9 119 yX9_codeOf ∈ bw := bw_of 845 (by decide +kernel) (by decide +kernel)
theorem im_X9_codeOf : Cond.instanceMethod yX9_codeOf ∈ bw := bw_of 847 (by decide +kernel) (by decide +kernel)
theorem cw_X9_codeOf : Cond.code yX9_codeOf cX9_codeOf 2 (some .int) ∈ bw := bw_of 848 (by decide +kernel) (by decide +kernel)
theorem ml_X9_116 : Cond.methodLink RX9 116 yX9_wordOf ∈ bw := bw_of 849 (by decide +kernel) (by decide +kernel)
theorem im_X9_wordOf : Cond.instanceMethod yX9_wordOf ∈ bw := bw_of 851 (by decide +kernel) (by decide +kernel)
theorem cw_X9_wordOf : Cond.code yX9_wordOf cX9_wordOf 2 (some .int) ∈ bw := bw_of 852 (by decide +kernel) (by decide +kernel)
theorem ml_X9_97 : Cond.methodLink RX9 97 yX9_makeEmpty ∈ bw := bw_of 853 (by decide +kernel) (by decide +kernel)
theorem im_X9_makeEmpty : Cond.instanceMethod yX9_makeEmpty ∈ bw := bw_of 855 (by decide +kernel) (by decide +kernel)
theorem cw_X9_makeEmpty : Cond.code yX9_makeEmpty cX9_makeEmpty 2 none ∈ bw := bw_of 856 (by decide +kernel) (by decide +kernel)
theorem ml_L_53 : Cond.methodLink RL 53 yX9_sign ∈ bw := bw_of 857 (by decide +kernel) (by decide +kernel)
theorem im_X9_sign : Cond.instanceMethod yX9_sign ∈ bw := bw_of 858 (by decide +kernel) (by decide +kernel)
theorem se_X9_sign : Cond.selects RX9 yX9_sign yX9_sign ∈ bw := bw_of 859 (by decide +kernel) (by decide +kernel)
theorem cw_X9_sign : Cond.code yX9_sign cX9_sign 4 (some .int) ∈ bw := bw_of 860 (by decide +kernel) (by decide +kernel)
theorem ml_X9_100 : Cond.methodLink RX9 100 yX9_isPlace ∈ bw := bw_of 861 (by decide +kernel) (by decide +kernel)
theorem im_X9_isPlace : Cond.instanceMethod yX9_isPlace ∈ bw := bw_of 863 (by decide +kernel) (by decide +kernel)
theorem cw_X9_isPlace : Cond.code yX9_isPlace cX9_isPlace 3 (some .boolean) ∈ bw := bw_of 864 (by decide +kernel) (by decide +kernel)
theorem ml_L_57 : Cond.methodLink RL 57 yX9_enter ∈ bw := bw_of 865 (by decide +kernel) (by decide +kernel)
theorem im_X9_enter : Cond.instanceMethod yX9_enter ∈ bw := bw_of 866 (by decide +kernel) (by decide +kernel)
theorem se_X9_enter : Cond.selects RX9 yX9_enter yX9_enter ∈ bw := bw_of 867 (by decide +kernel) (by decide +kernel)
theorem cw_X9_enter : Cond.code yX9_enter cX9_enter 3 (some .int) ∈ bw := bw_of 868 (by decide +kernel) (by decide +kernel)
theorem ml_X9_110 : Cond.methodLink RX9 110 yX9_isCode ∈ bw := bw_of 869 (by decide +kernel) (by decide +kernel)
theorem sm_X9_isCode : Cond.static yX9_isCode ∈ bw := bw_of 870 (by decide +kernel) (by decide +kernel)
theorem cw_X9_isCode : Cond.code yX9_isCode cX9_isCode 1 (some .boolean) ∈ bw := bw_of 871 (by decide +kernel) (by decide +kernel)
theorem ml_L_61 : Cond.methodLink RL 61 yX9_strike ∈ bw := bw_of 872 (by decide +kernel) (by decide +kernel)
theorem im_X9_strike : Cond.instanceMethod yX9_strike ∈ bw := bw_of 873 (by decide +kernel) (by decide +kernel)
theorem se_X9_strike : Cond.selects RX9 yX9_strike yX9_strike ∈ bw := bw_of 874 (by decide +kernel) (by decide +kernel)
theorem cw_X9_strike : Cond.code yX9_strike cX9_strike 4 (some .int) ∈ bw := bw_of 875 (by decide +kernel) (by decide +kernel)
theorem ml_X9_113 : Cond.methodLink RX9 113 yX9_isEntry ∈ bw := bw_of 876 (by decide +kernel) (by decide +kernel)
theorem im_X9_isEntry : Cond.instanceMethod yX9_isEntry ∈ bw := bw_of 878 (by decide +kernel) (by decide +kernel)
theorem cw_X9_isEntry : Cond.code yX9_isEntry cX9_isEntry 2 (some .boolean) ∈ bw := bw_of 879 (by decide +kernel) (by decide +kernel)
theorem ml_L_65 : Cond.methodLink RL 65 yX9_entry ∈ bw := bw_of 880 (by decide +kernel) (by decide +kernel)
theorem im_X9_entry : Cond.instanceMethod yX9_entry ∈ bw := bw_of 881 (by decide +kernel) (by decide +kernel)
theorem se_X9_entry : Cond.selects RX9 yX9_entry yX9_entry ∈ bw := bw_of 882 (by decide +kernel) (by decide +kernel)
theorem cw_X9_entry : Cond.code yX9_entry cX9_entry 3 (some .int) ∈ bw := bw_of 883 (by decide +kernel) (by decide +kernel)
theorem ml_L_69 : Cond.methodLink RL 69 yX9_seen ∈ bw := bw_of 884 (by decide +kernel) (by decide +kernel)
theorem im_X9_seen : Cond.instanceMethod yX9_seen ∈ bw := bw_of 885 (by decide +kernel) (by decide +kernel)
theorem se_X9_seen : Cond.selects RX9 yX9_seen yX9_seen ∈ bw := bw_of 886 (by decide +kernel) (by decide +kernel)
theorem cw_X9_seen : Cond.code yX9_seen cX9_seen 4 (some .int) ∈ bw := bw_of 887 (by decide +kernel) (by decide +kernel)
theorem ml_L_73 : Cond.methodLink RL 73 yX9_word ∈ bw := bw_of 888 (by decide +kernel) (by decide +kernel)
theorem im_X9_word : Cond.instanceMethod yX9_word ∈ bw := bw_of 889 (by decide +kernel) (by decide +kernel)
theorem se_X9_word : Cond.selects RX9 yX9_word yX9_word ∈ bw := bw_of 890 (by decide +kernel) (by decide +kernel)
theorem cw_X9_word : Cond.code yX9_word cX9_word 3 (some .int) ∈ bw := bw_of 891 (by decide +kernel) (by decide +kernel)
theorem ml_L_77 : Cond.methodLink RL 77 yX9_known ∈ bw := bw_of 892 (by decide +kernel) (by decide +kernel)
theorem im_X9_known : Cond.instanceMethod yX9_known ∈ bw := bw_of 893 (by decide +kernel) (by decide +kernel)
theorem se_X9_known : Cond.selects RX9 yX9_known yX9_known ∈ bw := bw_of 894 (by decide +kernel) (by decide +kernel)
theorem cw_X9_known : Cond.code yX9_known cX9_known 2 (some .int) ∈ bw := bw_of 895 (by decide +kernel) (by decide +kernel)
theorem ml_X9_128 : Cond.methodLink RX9 128 yX9_knownBy ∈ bw := bw_of 896 (by decide +kernel) (by decide +kernel)
theorem im_X9_knownBy : Cond.instanceMethod yX9_knownBy ∈ bw := bw_of 898 (by decide +kernel) (by decide +kernel)
theorem cw_X9_knownBy : Cond.code yX9_knownBy cX9_knownBy 4 (some .int) ∈ bw := bw_of 899 (by decide +kernel) (by decide +kernel)
theorem ml_L_81 : Cond.methodLink RL 81 yX9_isSame ∈ bw := bw_of 900 (by decide +kernel) (by decide +kernel)
theorem im_X9_isSame : Cond.instanceMethod yX9_isSame ∈ bw := bw_of 901 (by decide +kernel) (by decide +kernel)
theorem se_X9_isSame : Cond.selects RX9 yX9_isSame yX9_isSame ∈ bw := bw_of 902 (by decide +kernel) (by decide +kernel)
theorem cw_X9_isSame : Cond.code yX9_isSame cX9_isSame 3 (some .int) ∈ bw := bw_of 903 (by decide +kernel) (by decide +kernel)
theorem ml_X9_131 : Cond.methodLink RX9 131 yX9_knowsAll ∈ bw := bw_of 904 (by decide +kernel) (by decide +kernel)
theorem im_X9_knowsAll : Cond.instanceMethod yX9_knowsAll ∈ bw := bw_of 906 (by decide +kernel) (by decide +kernel)
theorem cw_X9_knowsAll : Cond.code yX9_knowsAll cX9_knowsAll 2 (some .boolean) ∈ bw := bw_of 907 (by decide +kernel) (by decide +kernel)
theorem ml_L_85 : Cond.methodLink RL 85 yX9_sail ∈ bw := bw_of 908 (by decide +kernel) (by decide +kernel)
theorem im_X9_sail : Cond.instanceMethod yX9_sail ∈ bw := bw_of 909 (by decide +kernel) (by decide +kernel)
theorem se_X9_sail : Cond.selects RX9 yX9_sail yX9_sail ∈ bw := bw_of 910 (by decide +kernel) (by decide +kernel)
theorem cw_X9_sail : Cond.code yX9_sail cX9_sail 3 (some .int) ∈ bw := bw_of 911 (by decide +kernel) (by decide +kernel)
theorem ml_L_89 : Cond.methodLink RL 89 yX9_answer ∈ bw := bw_of 912 (by decide +kernel) (by decide +kernel)
theorem im_X9_answer : Cond.instanceMethod yX9_answer ∈ bw := bw_of 913 (by decide +kernel) (by decide +kernel)
theorem se_X9_answer : Cond.selects RX9 yX9_answer yX9_answer ∈ bw := bw_of 914 (by decide +kernel) (by decide +kernel)
theorem cw_X9_answer : Cond.code yX9_answer cX9_answer 1 (some .int) ∈ bw := bw_of 915 (by decide +kernel) (by decide +kernel)
theorem ml_L_93 : Cond.methodLink RL 93 yX9_logged ∈ bw := bw_of 916 (by decide +kernel) (by decide +kernel)
theorem im_X9_logged : Cond.instanceMethod yX9_logged ∈ bw := bw_of 917 (by decide +kernel) (by decide +kernel)
theorem se_X9_logged : Cond.selects RX9 yX9_logged yX9_logged ∈ bw := bw_of 918 (by decide +kernel) (by decide +kernel)
theorem cw_X9_logged : Cond.code yX9_logged cX9_logged 4 (some .int) ∈ bw := bw_of 919 (by decide +kernel) (by decide +kernel)
theorem ml_L_97 : Cond.methodLink RL 97 yX9_total ∈ bw := bw_of 920 (by decide +kernel) (by decide +kernel)
theorem im_X9_total : Cond.instanceMethod yX9_total ∈ bw := bw_of 921 (by decide +kernel) (by decide +kernel)
theorem se_X9_total : Cond.selects RX9 yX9_total yX9_total ∈ bw := bw_of 922 (by decide +kernel) (by decide +kernel)
theorem cw_X9_total : Cond.code yX9_total cX9_total 2 (some .int) ∈ bw := bw_of 923 (by decide +kernel) (by decide +kernel)
theorem ml_L_101 : Cond.methodLink RL 101 yX9_leastWind ∈ bw := bw_of 924 (by decide +kernel) (by decide +kernel)
theorem im_X9_leastWind : Cond.instanceMethod yX9_leastWind ∈ bw := bw_of 925 (by decide +kernel) (by decide +kernel)
theorem se_X9_leastWind : Cond.selects RX9 yX9_leastWind yX9_leastWind ∈ bw := bw_of 926 (by decide +kernel) (by decide +kernel)
theorem cw_X9_leastWind : Cond.code yX9_leastWind cX9_leastWind 5 (some .int) ∈ bw := bw_of 927 (by decide +kernel) (by decide +kernel)
theorem ml_L_105 : Cond.methodLink RL 105 yX9_ifTurned ∈ bw := bw_of 928 (by decide +kernel) (by decide +kernel)
theorem im_X9_ifTurned : Cond.instanceMethod yX9_ifTurned ∈ bw := bw_of 929 (by decide +kernel) (by decide +kernel)
theorem se_X9_ifTurned : Cond.selects RX9 yX9_ifTurned yX9_ifTurned ∈ bw := bw_of 930 (by decide +kernel) (by decide +kernel)
theorem cw_X9_ifTurned : Cond.code yX9_ifTurned cX9_ifTurned 3 (some .int) ∈ bw := bw_of 931 (by decide +kernel) (by decide +kernel)
theorem ml_L_109 : Cond.methodLink RL 109 yX9_mendingExchange ∈ bw := bw_of 932 (by decide +kernel) (by decide +kernel)
theorem im_X9_mendingExchange : Cond.instanceMethod yX9_mendingExchange ∈ bw := bw_of 933 (by decide +kernel) (by decide +kernel)
theorem se_X9_mendingExchange : Cond.selects RX9 yX9_mendingExchange yX9_mendingExchange ∈ bw := bw_of 934 (by decide +kernel) (by decide +kernel)
theorem cw_X9_mendingExchange : Cond.code yX9_mendingExchange cX9_mendingExchange 4 (some .int) ∈ bw := bw_of 935 (by decide +kernel) (by decide +kernel)
theorem ml_X9_134 : Cond.methodLink RX9 134 yX9_isSame ∈ bw := bw_of 936 (by decide +kernel) (by decide +kernel)
theorem ml_L_113 : Cond.methodLink RL 113 yX9_bestEntry ∈ bw := bw_of 937 (by decide +kernel) (by decide +kernel)
theorem im_X9_bestEntry : Cond.instanceMethod yX9_bestEntry ∈ bw := bw_of 938 (by decide +kernel) (by decide +kernel)
theorem se_X9_bestEntry : Cond.selects RX9 yX9_bestEntry yX9_bestEntry ∈ bw := bw_of 939 (by decide +kernel) (by decide +kernel)
theorem cw_X9_bestEntry : Cond.code yX9_bestEntry cX9_bestEntry 5 (some .int) ∈ bw := bw_of 940 (by decide +kernel) (by decide +kernel)
theorem ml_X9_140 : Cond.methodLink RX9 140 yX9_isKnownAs ∈ bw := bw_of 941 (by decide +kernel) (by decide +kernel)
theorem im_X9_isKnownAs : Cond.instanceMethod yX9_isKnownAs ∈ bw := bw_of 943 (by decide +kernel) (by decide +kernel)
theorem cw_X9_isKnownAs : Cond.code yX9_isKnownAs cX9_isKnownAs 5 (some .boolean) ∈ bw := bw_of 944 (by decide +kernel) (by decide +kernel)
theorem ml_X9_137 : Cond.methodLink RX9 137 yX9_lengthOf ∈ bw := bw_of 945 (by decide +kernel) (by decide +kernel)
theorem sm_X9_lengthOf : Cond.static yX9_lengthOf ∈ bw := bw_of 946 (by decide +kernel) (by decide +kernel)
theorem cw_X9_lengthOf : Cond.code yX9_lengthOf cX9_lengthOf 1 (some .int) ∈ bw := bw_of 947 (by decide +kernel) (by decide +kernel)
theorem ml_L_117 : Cond.methodLink RL 117 yX9_append ∈ bw := bw_of 948 (by decide +kernel) (by decide +kernel)
theorem im_X9_append : Cond.instanceMethod yX9_append ∈ bw := bw_of 949 (by decide +kernel) (by decide +kernel)
theorem se_X9_append : Cond.selects RX9 yX9_append yX9_append ∈ bw := bw_of 950 (by decide +kernel) (by decide +kernel)
theorem cw_X9_append : Cond.code yX9_append cX9_append 2 (some .int) ∈ bw := bw_of 951 (by decide +kernel) (by decide +kernel)
theorem ml_L_121 : Cond.methodLink RL 121 yX9_clearText ∈ bw := bw_of 952 (by decide +kernel) (by decide +kernel)
theorem im_X9_clearText : Cond.instanceMethod yX9_clearText ∈ bw := bw_of 953 (by decide +kernel) (by decide +kernel)
theorem se_X9_clearText : Cond.selects RX9 yX9_clearText yX9_clearText ∈ bw := bw_of 954 (by decide +kernel) (by decide +kernel)
theorem cw_X9_clearText : Cond.code yX9_clearText cX9_clearText 2 (some .int) ∈ bw := bw_of 955 (by decide +kernel) (by decide +kernel)
theorem ml_L_125 : Cond.methodLink RL 125 yX9_errorPosition ∈ bw := bw_of 956 (by decide +kernel) (by decide +kernel)
theorem im_X9_errorPosition : Cond.instanceMethod yX9_errorPosition ∈ bw := bw_of 957 (by decide +kernel) (by decide +kernel)
theorem se_X9_errorPosition : Cond.selects RX9 yX9_errorPosition yX9_errorPosition ∈ bw := bw_of 958 (by decide +kernel) (by decide +kernel)
theorem cw_X9_errorPosition : Cond.code yX9_errorPosition cX9_errorPosition 2 (some .int) ∈ bw := bw_of 959 (by decide +kernel) (by decide +kernel)
theorem ml_X9_172 : Cond.methodLink RX9 172 yX9_readHoist ∈ bw := bw_of 960 (by decide +kernel) (by decide +kernel)
theorem im_X9_readHoist : Cond.instanceMethod yX9_readHoist ∈ bw := bw_of 962 (by decide +kernel) (by decide +kernel)
theorem cw_X9_readHoist : Cond.code yX9_readHoist cX9_readHoist 2 none ∈ bw := bw_of 963 (by decide +kernel) (by decide +kernel)
theorem ml_X9_162 : Cond.methodLink RX9 162 yX9_figure ∈ bw := bw_of 964 (by decide +kernel) (by decide +kernel)
theorem im_X9_figure : Cond.instanceMethod yX9_figure ∈ bw := bw_of 966 (by decide +kernel) (by decide +kernel)
theorem cw_X9_figure : Cond.code yX9_figure cX9_figure 4 (some .int) ∈ bw := bw_of 967 (by decide +kernel) (by decide +kernel)
theorem ml_X9_152 : Cond.methodLink RX9 152 yX9_letter ∈ bw := bw_of 968 (by decide +kernel) (by decide +kernel)
theorem im_X9_letter : Cond.instanceMethod yX9_letter ∈ bw := bw_of 970 (by decide +kernel) (by decide +kernel)
theorem cw_X9_letter : Cond.code yX9_letter cX9_letter 1 (some .int) ∈ bw := bw_of 971 (by decide +kernel) (by decide +kernel)
theorem ml_X9_155 : Cond.methodLink RX9 155 yX9_wants ∈ bw := bw_of 972 (by decide +kernel) (by decide +kernel)
theorem im_X9_wants : Cond.instanceMethod yX9_wants ∈ bw := bw_of 974 (by decide +kernel) (by decide +kernel)
theorem cw_X9_wants : Cond.code yX9_wants cX9_wants 2 none ∈ bw := bw_of 975 (by decide +kernel) (by decide +kernel)
theorem ml_X9_168 : Cond.methodLink RX9 168 yX9_readSign ∈ bw := bw_of 976 (by decide +kernel) (by decide +kernel)
theorem im_X9_readSign : Cond.instanceMethod yX9_readSign ∈ bw := bw_of 978 (by decide +kernel) (by decide +kernel)
theorem cw_X9_readSign : Cond.code yX9_readSign cX9_readSign 4 none ∈ bw := bw_of 979 (by decide +kernel) (by decide +kernel)
theorem ml_X9_159 : Cond.methodLink RX9 159 yX9_isSignNext ∈ bw := bw_of 980 (by decide +kernel) (by decide +kernel)
theorem im_X9_isSignNext : Cond.instanceMethod yX9_isSignNext ∈ bw := bw_of 982 (by decide +kernel) (by decide +kernel)
theorem cw_X9_isSignNext : Cond.code yX9_isSignNext cX9_isSignNext 2 (some .boolean) ∈ bw := bw_of 983 (by decide +kernel) (by decide +kernel)
theorem ml_L_129 : Cond.methodLink RL 129 yX9_hoist ∈ bw := bw_of 984 (by decide +kernel) (by decide +kernel)
theorem im_X9_hoist : Cond.instanceMethod yX9_hoist ∈ bw := bw_of 985 (by decide +kernel) (by decide +kernel)
theorem se_X9_hoist : Cond.selects RX9 yX9_hoist yX9_hoist ∈ bw := bw_of 986 (by decide +kernel) (by decide +kernel)
theorem cw_X9_hoist : Cond.code yX9_hoist cX9_hoist 3 (some .int) ∈ bw := bw_of 987 (by decide +kernel) (by decide +kernel)
theorem ml_X9_175 : Cond.methodLink RX9 175 yX9_errorPosition ∈ bw := bw_of 988 (by decide +kernel) (by decide +kernel)
theorem ml_X9_178 : Cond.methodLink RX9 178 yX9_neededOf ∈ bw := bw_of 989 (by decide +kernel) (by decide +kernel)
theorem im_X9_neededOf : Cond.instanceMethod yX9_neededOf ∈ bw := bw_of 991 (by decide +kernel) (by decide +kernel)
theorem cw_X9_neededOf : Cond.code yX9_neededOf cX9_neededOf 5 (some .int) ∈ bw := bw_of 992 (by decide +kernel) (by decide +kernel)
theorem se_X8_recordAndBringPennantDown : Cond.selects RX8 yX8_recordAndBringPennantDown yX8_recordAndBringPennantDown ∈ bw := bw_of 0 (by decide +kernel) (by decide +kernel)
theorem se_X2_slotAt : Cond.selects RX2 yX2_slotAt yX2_slotAt ∈ bw := bw_of 1 (by decide +kernel) (by decide +kernel)
theorem se_X8_read : Cond.selects RX8 yX8_read yX8_read ∈ bw := bw_of 2 (by decide +kernel) (by decide +kernel)
theorem se_X8_readingOf : Cond.selects RX8 yX8_readingOf yX8_readingOf ∈ bw := bw_of 3 (by decide +kernel) (by decide +kernel)
theorem se_X8_isKnownAsItself : Cond.selects RX8 yX8_isKnownAsItself yX8_isKnownAsItself ∈ bw := bw_of 4 (by decide +kernel) (by decide +kernel)
theorem se_X7_accept : Cond.selects RX7 yX7_accept yX7_accept ∈ bw := bw_of 5 (by decide +kernel) (by decide +kernel)
theorem se_X7_acceptHalyard : Cond.selects RX7 yX7_acceptHalyard yX7_acceptHalyard ∈ bw := bw_of 6 (by decide +kernel) (by decide +kernel)
theorem se_X7_acceptFlag : Cond.selects RX7 yX7_acceptFlag yX7_acceptFlag ∈ bw := bw_of 7 (by decide +kernel) (by decide +kernel)
theorem se_X7_acceptMore : Cond.selects RX7 yX7_acceptMore yX7_acceptMore ∈ bw := bw_of 8 (by decide +kernel) (by decide +kernel)
theorem se_X7_acceptPennant : Cond.selects RX7 yX7_acceptPennant yX7_acceptPennant ∈ bw := bw_of 9 (by decide +kernel) (by decide +kernel)
theorem se_X9_allSigns : Cond.selects RX9 yX9_allSigns yX9_allSigns ∈ bw := bw_of 10 (by decide +kernel) (by decide +kernel)
theorem se_X9_many : Cond.selects RX9 yX9_many yX9_many ∈ bw := bw_of 11 (by decide +kernel) (by decide +kernel)
theorem se_X9_record : Cond.selects RX9 yX9_record yX9_record ∈ bw := bw_of 12 (by decide +kernel) (by decide +kernel)
theorem se_X9_recordAndDown : Cond.selects RX9 yX9_recordAndDown yX9_recordAndDown ∈ bw := bw_of 13 (by decide +kernel) (by decide +kernel)
theorem se_X9_ofFlag : Cond.selects RX9 yX9_ofFlag yX9_ofFlag ∈ bw := bw_of 14 (by decide +kernel) (by decide +kernel)
theorem se_X9_mostUsed : Cond.selects RX9 yX9_mostUsed yX9_mostUsed ∈ bw := bw_of 15 (by decide +kernel) (by decide +kernel)
theorem se_X9_used : Cond.selects RX9 yX9_used yX9_used ∈ bw := bw_of 16 (by decide +kernel) (by decide +kernel)
theorem se_X9_signOn : Cond.selects RX9 yX9_signOn yX9_signOn ∈ bw := bw_of 17 (by decide +kernel) (by decide +kernel)
theorem se_X9_flagWith : Cond.selects RX9 yX9_flagWith yX9_flagWith ∈ bw := bw_of 18 (by decide +kernel) (by decide +kernel)
theorem se_X9_putOn : Cond.selects RX9 yX9_putOn yX9_putOn ∈ bw := bw_of 19 (by decide +kernel) (by decide +kernel)
theorem se_X9_swaps : Cond.selects RX9 yX9_swaps yX9_swaps ∈ bw := bw_of 20 (by decide +kernel) (by decide +kernel)
theorem se_X9_hoists : Cond.selects RX9 yX9_hoists yX9_hoists ∈ bw := bw_of 21 (by decide +kernel) (by decide +kernel)
theorem se_X9_logs : Cond.selects RX9 yX9_logs yX9_logs ∈ bw := bw_of 22 (by decide +kernel) (by decide +kernel)
theorem se_X9_wordAt : Cond.selects RX9 yX9_wordAt yX9_wordAt ∈ bw := bw_of 23 (by decide +kernel) (by decide +kernel)
theorem se_X9_read : Cond.selects RX9 yX9_read yX9_read ∈ bw := bw_of 24 (by decide +kernel) (by decide +kernel)
theorem se_X9_flagOn : Cond.selects RX9 yX9_flagOn yX9_flagOn ∈ bw := bw_of 25 (by decide +kernel) (by decide +kernel)
theorem se_X9_taken : Cond.selects RX9 yX9_taken yX9_taken ∈ bw := bw_of 26 (by decide +kernel) (by decide +kernel)
theorem se_X9_droops : Cond.selects RX9 yX9_droops yX9_droops ∈ bw := bw_of 27 (by decide +kernel) (by decide +kernel)
theorem se_X9_codeOf : Cond.selects RX9 yX9_codeOf yX9_codeOf ∈ bw := bw_of 28 (by decide +kernel) (by decide +kernel)
theorem se_X9_wordOf : Cond.selects RX9 yX9_wordOf yX9_wordOf ∈ bw := bw_of 29 (by decide +kernel) (by decide +kernel)
theorem se_X9_makeEmpty : Cond.selects RX9 yX9_makeEmpty yX9_makeEmpty ∈ bw := bw_of 30 (by decide +kernel) (by decide +kernel)
theorem se_X9_isPlace : Cond.selects RX9 yX9_isPlace yX9_isPlace ∈ bw := bw_of 31 (by decide +kernel) (by decide +kernel)
theorem se_X9_isEntry : Cond.selects RX9 yX9_isEntry yX9_isEntry ∈ bw := bw_of 32 (by decide +kernel) (by decide +kernel)
theorem se_X9_knownBy : Cond.selects RX9 yX9_knownBy yX9_knownBy ∈ bw := bw_of 33 (by decide +kernel) (by decide +kernel)
theorem se_X9_knowsAll : Cond.selects RX9 yX9_knowsAll yX9_knowsAll ∈ bw := bw_of 34 (by decide +kernel) (by decide +kernel)
theorem se_X9_isKnownAs : Cond.selects RX9 yX9_isKnownAs yX9_isKnownAs ∈ bw := bw_of 35 (by decide +kernel) (by decide +kernel)
theorem se_X9_readHoist : Cond.selects RX9 yX9_readHoist yX9_readHoist ∈ bw := bw_of 36 (by decide +kernel) (by decide +kernel)
theorem se_X9_figure : Cond.selects RX9 yX9_figure yX9_figure ∈ bw := bw_of 37 (by decide +kernel) (by decide +kernel)
theorem se_X9_letter : Cond.selects RX9 yX9_letter yX9_letter ∈ bw := bw_of 38 (by decide +kernel) (by decide +kernel)
theorem se_X9_wants : Cond.selects RX9 yX9_wants yX9_wants ∈ bw := bw_of 39 (by decide +kernel) (by decide +kernel)
theorem se_X9_readSign : Cond.selects RX9 yX9_readSign yX9_readSign ∈ bw := bw_of 40 (by decide +kernel) (by decide +kernel)
theorem se_X9_isSignNext : Cond.selects RX9 yX9_isSignNext yX9_isSignNext ∈ bw := bw_of 41 (by decide +kernel) (by decide +kernel)
theorem se_X9_neededOf : Cond.selects RX9 yX9_neededOf yX9_neededOf ∈ bw := bw_of 42 (by decide +kernel) (by decide +kernel)
/-- the links across the nest -/
def nw0 : Cond := .methodLinkNest RX6 20 yX3_init "MastFlags"
def nw1 : Cond := .methodLinkNest RX6 27 yX0_init "MastFlags"
def nw2 : Cond := .methodLinkNest RX6 34 yX4_init "MastFlags"
def nw3 : Cond := .methodLinkNest RX7 21 yX3_init "MastFlags"
def nw4 : Cond := .methodLinkNest RX2 39 yX8_isBelow "MastFlags"
def nw5 : Cond := .methodLinkNest RX1 27 yX8_isBelow "MastFlags"
def nw6 : Cond := .methodLinkNest RX3 24 yX8_isBelow "MastFlags"
def nw7 : Cond := .methodLinkNest RX5 25 yX8_isHoistFirst "MastFlags"
def nw8 : Cond := .methodLinkNest RX5 39 yX8_isBelow "MastFlags"
def nw9 : Cond := .methodLinkNest RX4 31 yX8_isBelow "MastFlags"
def nw10 : Cond := .methodLinkNest RX0 28 yX8_isBelow "MastFlags"
def nw11 : Cond := .methodLinkNest RX7 32 yX8_isBelow "MastFlags"
def nws : List Cond := [nw0, nw1, nw2, nw3, nw4, nw5, nw6, nw7, nw8, nw9, nw10, nw11]
theorem nws_in : ∀ w ∈ nws, w ∈ lw_tbl := by decide +kernel
theorem nwi0 : nw0 ∈ nws := by decide +kernel
theorem nwi1 : nw1 ∈ nws := by decide +kernel
theorem nwi2 : nw2 ∈ nws := by decide +kernel
theorem nwi3 : nw3 ∈ nws := by decide +kernel
theorem nwi4 : nw4 ∈ nws := by decide +kernel
theorem nwi5 : nw5 ∈ nws := by decide +kernel
theorem nwi6 : nw6 ∈ nws := by decide +kernel
theorem nwi7 : nw7 ∈ nws := by decide +kernel
theorem nwi8 : nw8 ∈ nws := by decide +kernel
theorem nwi9 : nw9 ∈ nws := by decide +kernel
theorem nwi10 : nw10 ∈ nws := by decide +kernel
theorem nwi11 : nw11 ∈ nws := by decide +kernel
end
section
theorem dX0_init_0 : decode cX0_init 0 = .ok (.aload_n 0, 1) := by decide +kernel
theorem dX0_init_1 : decode cX0_init 1 = .ok (.invokespecial 3, 3) := by decide +kernel
theorem dX0_init_4 : decode cX0_init 4 = .ok (.aload_n 0, 1) := by decide +kernel
theorem dX0_init_5 : decode cX0_init 5 = .ok (.bipush 12, 2) := by decide +kernel
theorem dX0_init_7 : decode cX0_init 7 = .ok (.newarray .int, 2) := by decide +kernel
theorem dX0_init_9 : decode cX0_init 9 = .ok (.putfield 9, 3) := by decide +kernel
theorem dX0_init_12 : decode cX0_init 12 = .ok (.aload_n 0, 1) := by decide +kernel
theorem dX0_init_13 : decode cX0_init 13 = .ok (.bipush 12, 2) := by decide +kernel
theorem dX0_init_15 : decode cX0_init 15 = .ok (.newarray .int, 2) := by decide +kernel
theorem dX0_init_17 : decode cX0_init 17 = .ok (.putfield 15, 3) := by decide +kernel
theorem dX0_init_20 : decode cX0_init 20 = .ok (.aload_n 0, 1) := by decide +kernel
theorem dX0_init_21 : decode cX0_init 21 = .ok (.iconst 0, 1) := by decide +kernel
theorem dX0_init_22 : decode cX0_init 22 = .ok (.putfield 18, 3) := by decide +kernel
theorem dX0_init_25 : decode cX0_init 25 = .ok (.return_, 1) := by decide +kernel
theorem dX0_copyFrom_0 : decode cX0_copyFrom 0 = .ok (.aload_n 1, 1) := by decide +kernel
theorem dX0_copyFrom_1 : decode cX0_copyFrom 1 = .ok (.getfield 9, 3) := by decide +kernel
theorem dX0_copyFrom_4 : decode cX0_copyFrom 4 = .ok (.iconst 0, 1) := by decide +kernel
theorem dX0_copyFrom_5 : decode cX0_copyFrom 5 = .ok (.aload_n 0, 1) := by decide +kernel
theorem dX0_copyFrom_6 : decode cX0_copyFrom 6 = .ok (.getfield 9, 3) := by decide +kernel
theorem dX0_copyFrom_9 : decode cX0_copyFrom 9 = .ok (.iconst 0, 1) := by decide +kernel
theorem dX0_copyFrom_10 : decode cX0_copyFrom 10 = .ok (.bipush 12, 2) := by decide +kernel
theorem dX0_copyFrom_12 : decode cX0_copyFrom 12 = .ok (.invokestatic 22, 3) := by decide +kernel
theorem dX0_copyFrom_15 : decode cX0_copyFrom 15 = .ok (.aload_n 1, 1) := by decide +kernel
theorem dX0_copyFrom_16 : decode cX0_copyFrom 16 = .ok (.getfield 15, 3) := by decide +kernel
theorem dX0_copyFrom_19 : decode cX0_copyFrom 19 = .ok (.iconst 0, 1) := by decide +kernel
theorem dX0_copyFrom_20 : decode cX0_copyFrom 20 = .ok (.aload_n 0, 1) := by decide +kernel
theorem dX0_copyFrom_21 : decode cX0_copyFrom 21 = .ok (.getfield 15, 3) := by decide +kernel
theorem dX0_copyFrom_24 : decode cX0_copyFrom 24 = .ok (.iconst 0, 1) := by decide +kernel
theorem dX0_copyFrom_25 : decode cX0_copyFrom 25 = .ok (.bipush 12, 2) := by decide +kernel
theorem dX0_copyFrom_27 : decode cX0_copyFrom 27 = .ok (.invokestatic 22, 3) := by decide +kernel
theorem dX0_copyFrom_30 : decode cX0_copyFrom 30 = .ok (.aload_n 0, 1) := by decide +kernel
theorem dX0_copyFrom_31 : decode cX0_copyFrom 31 = .ok (.aload_n 1, 1) := by decide +kernel
theorem dX0_copyFrom_32 : decode cX0_copyFrom 32 = .ok (.getfield 18, 3) := by decide +kernel
theorem dX0_copyFrom_35 : decode cX0_copyFrom 35 = .ok (.putfield 18, 3) := by decide +kernel
theorem dX0_copyFrom_38 : decode cX0_copyFrom 38 = .ok (.return_, 1) := by decide +kernel
theorem dX0_size_0 : decode cX0_size 0 = .ok (.aload_n 0, 1) := by decide +kernel
theorem dX0_size_1 : decode cX0_size 1 = .ok (.getfield 18, 3) := by decide +kernel
theorem dX0_size_4 : decode cX0_size 4 = .ok (.ireturn, 1) := by decide +kernel
theorem dX0_flagsAt_0 : decode cX0_flagsAt 0 = .ok (.iload_n 1, 1) := by decide +kernel
theorem dX0_flagsAt_1 : decode cX0_flagsAt 1 = .ok (.bipush 12, 2) := by decide +kernel
theorem dX0_flagsAt_3 : decode cX0_flagsAt 3 = .ok (.invokestatic 28, 3) := by decide +kernel
theorem dX0_flagsAt_6 : decode cX0_flagsAt 6 = .ok (.ifCond .eq 12, 3) := by decide +kernel
theorem dX0_flagsAt_9 : decode cX0_flagsAt 9 = .ok (.aload_n 0, 1) := by decide +kernel
theorem dX0_flagsAt_10 : decode cX0_flagsAt 10 = .ok (.getfield 9, 3) := by decide +kernel
theorem dX0_flagsAt_13 : decode cX0_flagsAt 13 = .ok (.iload_n 1, 1) := by decide +kernel
theorem dX0_flagsAt_14 : decode cX0_flagsAt 14 = .ok (.iaload, 1) := by decide +kernel
theorem dX0_flagsAt_15 : decode cX0_flagsAt 15 = .ok (.goto 5, 3) := by decide +kernel
theorem dX0_flagsAt_18 : decode cX0_flagsAt 18 = .ok (.bipush (-6), 2) := by decide +kernel
theorem dX0_flagsAt_20 : decode cX0_flagsAt 20 = .ok (.ireturn, 1) := by decide +kernel
theorem dX0_wordAt_0 : decode cX0_wordAt 0 = .ok (.iload_n 1, 1) := by decide +kernel
theorem dX0_wordAt_1 : decode cX0_wordAt 1 = .ok (.bipush 12, 2) := by decide +kernel
theorem dX0_wordAt_3 : decode cX0_wordAt 3 = .ok (.invokestatic 28, 3) := by decide +kernel
theorem dX0_wordAt_6 : decode cX0_wordAt 6 = .ok (.ifCond .eq 12, 3) := by decide +kernel
theorem dX0_wordAt_9 : decode cX0_wordAt 9 = .ok (.aload_n 0, 1) := by decide +kernel
theorem dX0_wordAt_10 : decode cX0_wordAt 10 = .ok (.getfield 15, 3) := by decide +kernel
theorem dX0_wordAt_13 : decode cX0_wordAt 13 = .ok (.iload_n 1, 1) := by decide +kernel
theorem dX0_wordAt_14 : decode cX0_wordAt 14 = .ok (.iaload, 1) := by decide +kernel
theorem dX0_wordAt_15 : decode cX0_wordAt 15 = .ok (.goto 5, 3) := by decide +kernel
theorem dX0_wordAt_18 : decode cX0_wordAt 18 = .ok (.bipush (-6), 2) := by decide +kernel
theorem dX0_wordAt_20 : decode cX0_wordAt 20 = .ok (.ireturn, 1) := by decide +kernel
theorem dX0_add_0 : decode cX0_add 0 = .ok (.aload_n 0, 1) := by decide +kernel
theorem dX0_add_1 : decode cX0_add 1 = .ok (.getfield 18, 3) := by decide +kernel
theorem dX0_add_4 : decode cX0_add 4 = .ok (.bipush 12, 2) := by decide +kernel
theorem dX0_add_6 : decode cX0_add 6 = .ok (.invokestatic 28, 3) := by decide +kernel
theorem dX0_add_9 : decode cX0_add 9 = .ok (.ifCond .eq 33, 3) := by decide +kernel
theorem dX0_add_12 : decode cX0_add 12 = .ok (.aload_n 0, 1) := by decide +kernel
theorem dX0_add_13 : decode cX0_add 13 = .ok (.getfield 9, 3) := by decide +kernel
theorem dX0_add_16 : decode cX0_add 16 = .ok (.aload_n 0, 1) := by decide +kernel
theorem dX0_add_17 : decode cX0_add 17 = .ok (.getfield 18, 3) := by decide +kernel
theorem dX0_add_20 : decode cX0_add 20 = .ok (.iload_n 1, 1) := by decide +kernel
theorem dX0_add_21 : decode cX0_add 21 = .ok (.iastore, 1) := by decide +kernel
theorem dX0_add_22 : decode cX0_add 22 = .ok (.aload_n 0, 1) := by decide +kernel
theorem dX0_add_23 : decode cX0_add 23 = .ok (.getfield 15, 3) := by decide +kernel
theorem dX0_add_26 : decode cX0_add 26 = .ok (.aload_n 0, 1) := by decide +kernel
theorem dX0_add_27 : decode cX0_add 27 = .ok (.getfield 18, 3) := by decide +kernel
theorem dX0_add_30 : decode cX0_add 30 = .ok (.iload_n 2, 1) := by decide +kernel
theorem dX0_add_31 : decode cX0_add 31 = .ok (.iastore, 1) := by decide +kernel
theorem dX0_add_32 : decode cX0_add 32 = .ok (.aload_n 0, 1) := by decide +kernel
theorem dX0_add_33 : decode cX0_add 33 = .ok (.dup, 1) := by decide +kernel
theorem dX0_add_34 : decode cX0_add 34 = .ok (.getfield 18, 3) := by decide +kernel
theorem dX0_add_37 : decode cX0_add 37 = .ok (.iconst 1, 1) := by decide +kernel
theorem dX0_add_38 : decode cX0_add 38 = .ok (.iadd, 1) := by decide +kernel
theorem dX0_add_39 : decode cX0_add 39 = .ok (.putfield 18, 3) := by decide +kernel
theorem dX0_add_42 : decode cX0_add 42 = .ok (.return_, 1) := by decide +kernel
theorem dX0_remove_0 : decode cX0_remove 0 = .ok (.iload_n 1, 1) := by decide +kernel
theorem dX0_remove_1 : decode cX0_remove 1 = .ok (.aload_n 0, 1) := by decide +kernel
theorem dX0_remove_2 : decode cX0_remove 2 = .ok (.getfield 18, 3) := by decide +kernel
theorem dX0_remove_5 : decode cX0_remove 5 = .ok (.invokestatic 28, 3) := by decide +kernel
theorem dX0_remove_8 : decode cX0_remove 8 = .ok (.ifCond .eq 12, 3) := by decide +kernel
theorem dX0_remove_11 : decode cX0_remove 11 = .ok (.aload_n 0, 1) := by decide +kernel
theorem dX0_remove_12 : decode cX0_remove 12 = .ok (.getfield 18, 3) := by decide +kernel
theorem dX0_remove_15 : decode cX0_remove 15 = .ok (.bipush 12, 2) := by decide +kernel
theorem dX0_remove_17 : decode cX0_remove 17 = .ok (.if_icmp .le 6, 3) := by decide +kernel
theorem dX0_remove_20 : decode cX0_remove 20 = .ok (.bipush (-6), 2) := by decide +kernel
theorem dX0_remove_22 : decode cX0_remove 22 = .ok (.ireturn, 1) := by decide +kernel
theorem dX0_remove_23 : decode cX0_remove 23 = .ok (.aload_n 0, 1) := by decide +kernel
theorem dX0_remove_24 : decode cX0_remove 24 = .ok (.getfield 15, 3) := by decide +kernel
theorem dX0_remove_27 : decode cX0_remove 27 = .ok (.iload_n 1, 1) := by decide +kernel
theorem dX0_remove_28 : decode cX0_remove 28 = .ok (.iaload, 1) := by decide +kernel
theorem dX0_remove_29 : decode cX0_remove 29 = .ok (.istore_n 2, 1) := by decide +kernel
theorem dX0_remove_30 : decode cX0_remove 30 = .ok (.iload_n 1, 1) := by decide +kernel
theorem dX0_remove_31 : decode cX0_remove 31 = .ok (.istore_n 3, 1) := by decide +kernel
theorem dX0_remove_32 : decode cX0_remove 32 = .ok (.iload_n 3, 1) := by decide +kernel
theorem dX0_remove_33 : decode cX0_remove 33 = .ok (.iconst 1, 1) := by decide +kernel
theorem dX0_remove_34 : decode cX0_remove 34 = .ok (.iadd, 1) := by decide +kernel
theorem dX0_remove_35 : decode cX0_remove 35 = .ok (.aload_n 0, 1) := by decide +kernel
theorem dX0_remove_36 : decode cX0_remove 36 = .ok (.getfield 18, 3) := by decide +kernel
theorem dX0_remove_39 : decode cX0_remove 39 = .ok (.if_icmp .ge 37, 3) := by decide +kernel
theorem dX0_remove_42 : decode cX0_remove 42 = .ok (.aload_n 0, 1) := by decide +kernel
theorem dX0_remove_43 : decode cX0_remove 43 = .ok (.getfield 9, 3) := by decide +kernel
theorem dX0_remove_46 : decode cX0_remove 46 = .ok (.iload_n 3, 1) := by decide +kernel
theorem dX0_remove_47 : decode cX0_remove 47 = .ok (.aload_n 0, 1) := by decide +kernel
theorem dX0_remove_48 : decode cX0_remove 48 = .ok (.getfield 9, 3) := by decide +kernel
theorem dX0_remove_51 : decode cX0_remove 51 = .ok (.iload_n 3, 1) := by decide +kernel
theorem dX0_remove_52 : decode cX0_remove 52 = .ok (.iconst 1, 1) := by decide +kernel
theorem dX0_remove_53 : decode cX0_remove 53 = .ok (.iadd, 1) := by decide +kernel
theorem dX0_remove_54 : decode cX0_remove 54 = .ok (.iaload, 1) := by decide +kernel
theorem dX0_remove_55 : decode cX0_remove 55 = .ok (.iastore, 1) := by decide +kernel
theorem dX0_remove_56 : decode cX0_remove 56 = .ok (.aload_n 0, 1) := by decide +kernel
theorem dX0_remove_57 : decode cX0_remove 57 = .ok (.getfield 15, 3) := by decide +kernel
theorem dX0_remove_60 : decode cX0_remove 60 = .ok (.iload_n 3, 1) := by decide +kernel
theorem dX0_remove_61 : decode cX0_remove 61 = .ok (.aload_n 0, 1) := by decide +kernel
theorem dX0_remove_62 : decode cX0_remove 62 = .ok (.getfield 15, 3) := by decide +kernel
theorem dX0_remove_65 : decode cX0_remove 65 = .ok (.iload_n 3, 1) := by decide +kernel
theorem dX0_remove_66 : decode cX0_remove 66 = .ok (.iconst 1, 1) := by decide +kernel
theorem dX0_remove_67 : decode cX0_remove 67 = .ok (.iadd, 1) := by decide +kernel
theorem dX0_remove_68 : decode cX0_remove 68 = .ok (.iaload, 1) := by decide +kernel
theorem dX0_remove_69 : decode cX0_remove 69 = .ok (.iastore, 1) := by decide +kernel
theorem dX0_remove_70 : decode cX0_remove 70 = .ok (.iinc 3 1, 3) := by decide +kernel
theorem dX0_remove_73 : decode cX0_remove 73 = .ok (.goto (-41), 3) := by decide +kernel
theorem dX0_remove_76 : decode cX0_remove 76 = .ok (.aload_n 0, 1) := by decide +kernel
theorem dX0_remove_77 : decode cX0_remove 77 = .ok (.dup, 1) := by decide +kernel
theorem dX0_remove_78 : decode cX0_remove 78 = .ok (.getfield 18, 3) := by decide +kernel
theorem dX0_remove_81 : decode cX0_remove 81 = .ok (.iconst 1, 1) := by decide +kernel
theorem dX0_remove_82 : decode cX0_remove 82 = .ok (.isub, 1) := by decide +kernel
theorem dX0_remove_83 : decode cX0_remove 83 = .ok (.putfield 18, 3) := by decide +kernel
theorem dX0_remove_86 : decode cX0_remove 86 = .ok (.iload_n 2, 1) := by decide +kernel
theorem dX0_remove_87 : decode cX0_remove 87 = .ok (.ireturn, 1) := by decide +kernel
theorem dX0_wordFor_0 : decode cX0_wordFor 0 = .ok (.iconst 0, 1) := by decide +kernel
theorem dX0_wordFor_1 : decode cX0_wordFor 1 = .ok (.istore_n 2, 1) := by decide +kernel
theorem dX0_wordFor_2 : decode cX0_wordFor 2 = .ok (.iload_n 2, 1) := by decide +kernel
theorem dX0_wordFor_3 : decode cX0_wordFor 3 = .ok (.aload_n 0, 1) := by decide +kernel
theorem dX0_wordFor_4 : decode cX0_wordFor 4 = .ok (.getfield 18, 3) := by decide +kernel
theorem dX0_wordFor_7 : decode cX0_wordFor 7 = .ok (.if_icmp .ge 32, 3) := by decide +kernel
theorem dX0_wordFor_10 : decode cX0_wordFor 10 = .ok (.iload_n 2, 1) := by decide +kernel
theorem dX0_wordFor_11 : decode cX0_wordFor 11 = .ok (.bipush 12, 2) := by decide +kernel
theorem dX0_wordFor_13 : decode cX0_wordFor 13 = .ok (.if_icmp .ge 26, 3) := by decide +kernel
theorem dX0_wordFor_16 : decode cX0_wordFor 16 = .ok (.aload_n 0, 1) := by decide +kernel
theorem dX0_wordFor_17 : decode cX0_wordFor 17 = .ok (.getfield 9, 3) := by decide +kernel
theorem dX0_wordFor_20 : decode cX0_wordFor 20 = .ok (.iload_n 2, 1) := by decide +kernel
theorem dX0_wordFor_21 : decode cX0_wordFor 21 = .ok (.iaload, 1) := by decide +kernel
theorem dX0_wordFor_22 : decode cX0_wordFor 22 = .ok (.iload_n 1, 1) := by decide +kernel
theorem dX0_wordFor_23 : decode cX0_wordFor 23 = .ok (.if_icmp .ne 10, 3) := by decide +kernel
theorem dX0_wordFor_26 : decode cX0_wordFor 26 = .ok (.aload_n 0, 1) := by decide +kernel
theorem dX0_wordFor_27 : decode cX0_wordFor 27 = .ok (.getfield 15, 3) := by decide +kernel
theorem dX0_wordFor_30 : decode cX0_wordFor 30 = .ok (.iload_n 2, 1) := by decide +kernel
theorem dX0_wordFor_31 : decode cX0_wordFor 31 = .ok (.iaload, 1) := by decide +kernel
theorem dX0_wordFor_32 : decode cX0_wordFor 32 = .ok (.ireturn, 1) := by decide +kernel
theorem dX0_wordFor_33 : decode cX0_wordFor 33 = .ok (.iinc 2 1, 3) := by decide +kernel
theorem dX0_wordFor_36 : decode cX0_wordFor 36 = .ok (.goto (-34), 3) := by decide +kernel
theorem dX0_wordFor_39 : decode cX0_wordFor 39 = .ok (.bipush (-6), 2) := by decide +kernel
theorem dX0_wordFor_41 : decode cX0_wordFor 41 = .ok (.ireturn, 1) := by decide +kernel
theorem dX1_init_0 : decode cX1_init 0 = .ok (.aload_n 0, 1) := by decide +kernel
theorem dX1_init_1 : decode cX1_init 1 = .ok (.invokespecial 3, 3) := by decide +kernel
theorem dX1_init_4 : decode cX1_init 4 = .ok (.aload_n 0, 1) := by decide +kernel
theorem dX1_init_5 : decode cX1_init 5 = .ok (.bipush 10, 2) := by decide +kernel
theorem dX1_init_7 : decode cX1_init 7 = .ok (.newarray .int, 2) := by decide +kernel
theorem dX1_init_9 : decode cX1_init 9 = .ok (.putfield 9, 3) := by decide +kernel
theorem dX1_init_12 : decode cX1_init 12 = .ok (.aload_n 0, 1) := by decide +kernel
theorem dX1_init_13 : decode cX1_init 13 = .ok (.bipush 10, 2) := by decide +kernel
theorem dX1_init_15 : decode cX1_init 15 = .ok (.newarray .int, 2) := by decide +kernel
theorem dX1_init_17 : decode cX1_init 17 = .ok (.putfield 15, 3) := by decide +kernel
theorem dX1_init_20 : decode cX1_init 20 = .ok (.aload_n 0, 1) := by decide +kernel
theorem dX1_init_21 : decode cX1_init 21 = .ok (.bipush 10, 2) := by decide +kernel
theorem dX1_init_23 : decode cX1_init 23 = .ok (.newarray .int, 2) := by decide +kernel
theorem dX1_init_25 : decode cX1_init 25 = .ok (.putfield 18, 3) := by decide +kernel
theorem dX1_init_28 : decode cX1_init 28 = .ok (.iconst 0, 1) := by decide +kernel
theorem dX1_init_29 : decode cX1_init 29 = .ok (.istore_n 1, 1) := by decide +kernel
theorem dX1_init_30 : decode cX1_init 30 = .ok (.iload_n 1, 1) := by decide +kernel
theorem dX1_init_31 : decode cX1_init 31 = .ok (.bipush 10, 2) := by decide +kernel
theorem dX1_init_33 : decode cX1_init 33 = .ok (.if_icmp .ge 42, 3) := by decide +kernel
theorem dX1_init_36 : decode cX1_init 36 = .ok (.aload_n 0, 1) := by decide +kernel
theorem dX1_init_37 : decode cX1_init 37 = .ok (.getfield 9, 3) := by decide +kernel
theorem dX1_init_40 : decode cX1_init 40 = .ok (.iload_n 1, 1) := by decide +kernel
theorem dX1_init_41 : decode cX1_init 41 = .ok (.iload_n 1, 1) := by decide +kernel
theorem dX1_init_42 : decode cX1_init 42 = .ok (.bipush 8, 2) := by decide +kernel
theorem dX1_init_44 : decode cX1_init 44 = .ok (.irem, 1) := by decide +kernel
theorem dX1_init_45 : decode cX1_init 45 = .ok (.iastore, 1) := by decide +kernel
theorem dX1_init_46 : decode cX1_init 46 = .ok (.aload_n 0, 1) := by decide +kernel
theorem dX1_init_47 : decode cX1_init 47 = .ok (.getfield 15, 3) := by decide +kernel
theorem dX1_init_50 : decode cX1_init 50 = .ok (.iload_n 1, 1) := by decide +kernel
theorem dX1_init_51 : decode cX1_init 51 = .ok (.iconst 3, 1) := by decide +kernel
theorem dX1_init_52 : decode cX1_init 52 = .ok (.iload_n 1, 1) := by decide +kernel
theorem dX1_init_53 : decode cX1_init 53 = .ok (.imul, 1) := by decide +kernel
theorem dX1_init_54 : decode cX1_init 54 = .ok (.iconst 1, 1) := by decide +kernel
theorem dX1_init_55 : decode cX1_init 55 = .ok (.iadd, 1) := by decide +kernel
theorem dX1_init_56 : decode cX1_init 56 = .ok (.bipush 8, 2) := by decide +kernel
theorem dX1_init_58 : decode cX1_init 58 = .ok (.irem, 1) := by decide +kernel
theorem dX1_init_59 : decode cX1_init 59 = .ok (.iastore, 1) := by decide +kernel
theorem dX1_init_60 : decode cX1_init 60 = .ok (.aload_n 0, 1) := by decide +kernel
theorem dX1_init_61 : decode cX1_init 61 = .ok (.getfield 18, 3) := by decide +kernel
theorem dX1_init_64 : decode cX1_init 64 = .ok (.iload_n 1, 1) := by decide +kernel
theorem dX1_init_65 : decode cX1_init 65 = .ok (.iload_n 1, 1) := by decide +kernel
theorem dX1_init_66 : decode cX1_init 66 = .ok (.iconst 2, 1) := by decide +kernel
theorem dX1_init_67 : decode cX1_init 67 = .ok (.idiv, 1) := by decide +kernel
theorem dX1_init_68 : decode cX1_init 68 = .ok (.iastore, 1) := by decide +kernel
theorem dX1_init_69 : decode cX1_init 69 = .ok (.iinc 1 1, 3) := by decide +kernel
theorem dX1_init_72 : decode cX1_init 72 = .ok (.goto (-42), 3) := by decide +kernel
theorem dX1_init_75 : decode cX1_init 75 = .ok (.return_, 1) := by decide +kernel
theorem dX1_copyFrom_0 : decode cX1_copyFrom 0 = .ok (.aload_n 1, 1) := by decide +kernel
theorem dX1_copyFrom_1 : decode cX1_copyFrom 1 = .ok (.getfield 9, 3) := by decide +kernel
theorem dX1_copyFrom_4 : decode cX1_copyFrom 4 = .ok (.iconst 0, 1) := by decide +kernel
theorem dX1_copyFrom_5 : decode cX1_copyFrom 5 = .ok (.aload_n 0, 1) := by decide +kernel
theorem dX1_copyFrom_6 : decode cX1_copyFrom 6 = .ok (.getfield 9, 3) := by decide +kernel
theorem dX1_copyFrom_9 : decode cX1_copyFrom 9 = .ok (.iconst 0, 1) := by decide +kernel
theorem dX1_copyFrom_10 : decode cX1_copyFrom 10 = .ok (.bipush 10, 2) := by decide +kernel
theorem dX1_copyFrom_12 : decode cX1_copyFrom 12 = .ok (.invokestatic 21, 3) := by decide +kernel
theorem dX1_copyFrom_15 : decode cX1_copyFrom 15 = .ok (.aload_n 1, 1) := by decide +kernel
theorem dX1_copyFrom_16 : decode cX1_copyFrom 16 = .ok (.getfield 15, 3) := by decide +kernel
theorem dX1_copyFrom_19 : decode cX1_copyFrom 19 = .ok (.iconst 0, 1) := by decide +kernel
theorem dX1_copyFrom_20 : decode cX1_copyFrom 20 = .ok (.aload_n 0, 1) := by decide +kernel
theorem dX1_copyFrom_21 : decode cX1_copyFrom 21 = .ok (.getfield 15, 3) := by decide +kernel
theorem dX1_copyFrom_24 : decode cX1_copyFrom 24 = .ok (.iconst 0, 1) := by decide +kernel
theorem dX1_copyFrom_25 : decode cX1_copyFrom 25 = .ok (.bipush 10, 2) := by decide +kernel
theorem dX1_copyFrom_27 : decode cX1_copyFrom 27 = .ok (.invokestatic 21, 3) := by decide +kernel
theorem dX1_copyFrom_30 : decode cX1_copyFrom 30 = .ok (.aload_n 1, 1) := by decide +kernel
theorem dX1_copyFrom_31 : decode cX1_copyFrom 31 = .ok (.getfield 18, 3) := by decide +kernel
theorem dX1_copyFrom_34 : decode cX1_copyFrom 34 = .ok (.iconst 0, 1) := by decide +kernel
theorem dX1_copyFrom_35 : decode cX1_copyFrom 35 = .ok (.aload_n 0, 1) := by decide +kernel
theorem dX1_copyFrom_36 : decode cX1_copyFrom 36 = .ok (.getfield 18, 3) := by decide +kernel
theorem dX1_copyFrom_39 : decode cX1_copyFrom 39 = .ok (.iconst 0, 1) := by decide +kernel
theorem dX1_copyFrom_40 : decode cX1_copyFrom 40 = .ok (.bipush 10, 2) := by decide +kernel
theorem dX1_copyFrom_42 : decode cX1_copyFrom 42 = .ok (.invokestatic 21, 3) := by decide +kernel
theorem dX1_copyFrom_45 : decode cX1_copyFrom 45 = .ok (.return_, 1) := by decide +kernel
theorem dX1_change_0 : decode cX1_change 0 = .ok (.iload_n 1, 1) := by decide +kernel
theorem dX1_change_1 : decode cX1_change 1 = .ok (.bipush 10, 2) := by decide +kernel
theorem dX1_change_3 : decode cX1_change 3 = .ok (.invokestatic 27, 3) := by decide +kernel
theorem dX1_change_6 : decode cX1_change 6 = .ok (.ifCond .eq 25, 3) := by decide +kernel
theorem dX1_change_9 : decode cX1_change 9 = .ok (.aload_n 0, 1) := by decide +kernel
theorem dX1_change_10 : decode cX1_change 10 = .ok (.getfield 9, 3) := by decide +kernel
theorem dX1_change_13 : decode cX1_change 13 = .ok (.iload_n 1, 1) := by decide +kernel
theorem dX1_change_14 : decode cX1_change 14 = .ok (.iload_n 2, 1) := by decide +kernel
theorem dX1_change_15 : decode cX1_change 15 = .ok (.iastore, 1) := by decide +kernel
theorem dX1_change_16 : decode cX1_change 16 = .ok (.aload_n 0, 1) := by decide +kernel
theorem dX1_change_17 : decode cX1_change 17 = .ok (.getfield 15, 3) := by decide +kernel
theorem dX1_change_20 : decode cX1_change 20 = .ok (.iload_n 1, 1) := by decide +kernel
theorem dX1_change_21 : decode cX1_change 21 = .ok (.iload_n 3, 1) := by decide +kernel
theorem dX1_change_22 : decode cX1_change 22 = .ok (.iastore, 1) := by decide +kernel
theorem dX1_change_23 : decode cX1_change 23 = .ok (.aload_n 0, 1) := by decide +kernel
theorem dX1_change_24 : decode cX1_change 24 = .ok (.getfield 18, 3) := by decide +kernel
theorem dX1_change_27 : decode cX1_change 27 = .ok (.iload_n 1, 1) := by decide +kernel
theorem dX1_change_28 : decode cX1_change 28 = .ok (.iload 4, 2) := by decide +kernel
theorem dX1_change_30 : decode cX1_change 30 = .ok (.iastore, 1) := by decide +kernel
theorem dX1_change_31 : decode cX1_change 31 = .ok (.return_, 1) := by decide +kernel
theorem dX1_atHoist_0 : decode cX1_atHoist 0 = .ok (.iload_n 1, 1) := by decide +kernel
theorem dX1_atHoist_1 : decode cX1_atHoist 1 = .ok (.bipush 10, 2) := by decide +kernel
theorem dX1_atHoist_3 : decode cX1_atHoist 3 = .ok (.invokestatic 27, 3) := by decide +kernel
theorem dX1_atHoist_6 : decode cX1_atHoist 6 = .ok (.ifCond .eq 12, 3) := by decide +kernel
theorem dX1_atHoist_9 : decode cX1_atHoist 9 = .ok (.aload_n 0, 1) := by decide +kernel
theorem dX1_atHoist_10 : decode cX1_atHoist 10 = .ok (.getfield 9, 3) := by decide +kernel
theorem dX1_atHoist_13 : decode cX1_atHoist 13 = .ok (.iload_n 1, 1) := by decide +kernel
theorem dX1_atHoist_14 : decode cX1_atHoist 14 = .ok (.iaload, 1) := by decide +kernel
theorem dX1_atHoist_15 : decode cX1_atHoist 15 = .ok (.goto 5, 3) := by decide +kernel
theorem dX1_atHoist_18 : decode cX1_atHoist 18 = .ok (.bipush (-6), 2) := by decide +kernel
theorem dX1_atHoist_20 : decode cX1_atHoist 20 = .ok (.ireturn, 1) := by decide +kernel
theorem dX1_atFly_0 : decode cX1_atFly 0 = .ok (.iload_n 1, 1) := by decide +kernel
theorem dX1_atFly_1 : decode cX1_atFly 1 = .ok (.bipush 10, 2) := by decide +kernel
theorem dX1_atFly_3 : decode cX1_atFly 3 = .ok (.invokestatic 27, 3) := by decide +kernel
theorem dX1_atFly_6 : decode cX1_atFly 6 = .ok (.ifCond .eq 12, 3) := by decide +kernel
theorem dX1_atFly_9 : decode cX1_atFly 9 = .ok (.aload_n 0, 1) := by decide +kernel
theorem dX1_atFly_10 : decode cX1_atFly 10 = .ok (.getfield 15, 3) := by decide +kernel
theorem dX1_atFly_13 : decode cX1_atFly 13 = .ok (.iload_n 1, 1) := by decide +kernel
theorem dX1_atFly_14 : decode cX1_atFly 14 = .ok (.iaload, 1) := by decide +kernel
theorem dX1_atFly_15 : decode cX1_atFly 15 = .ok (.goto 5, 3) := by decide +kernel
theorem dX1_atFly_18 : decode cX1_atFly 18 = .ok (.bipush (-6), 2) := by decide +kernel
theorem dX1_atFly_20 : decode cX1_atFly 20 = .ok (.ireturn, 1) := by decide +kernel
theorem dX1_weightOf_0 : decode cX1_weightOf 0 = .ok (.iload_n 1, 1) := by decide +kernel
theorem dX1_weightOf_1 : decode cX1_weightOf 1 = .ok (.bipush 10, 2) := by decide +kernel
theorem dX1_weightOf_3 : decode cX1_weightOf 3 = .ok (.invokestatic 27, 3) := by decide +kernel
theorem dX1_weightOf_6 : decode cX1_weightOf 6 = .ok (.ifCond .eq 12, 3) := by decide +kernel
theorem dX1_weightOf_9 : decode cX1_weightOf 9 = .ok (.aload_n 0, 1) := by decide +kernel
theorem dX1_weightOf_10 : decode cX1_weightOf 10 = .ok (.getfield 18, 3) := by decide +kernel
theorem dX1_weightOf_13 : decode cX1_weightOf 13 = .ok (.iload_n 1, 1) := by decide +kernel
theorem dX1_weightOf_14 : decode cX1_weightOf 14 = .ok (.iaload, 1) := by decide +kernel
theorem dX1_weightOf_15 : decode cX1_weightOf 15 = .ok (.goto 5, 3) := by decide +kernel
theorem dX1_weightOf_18 : decode cX1_weightOf 18 = .ok (.bipush (-6), 2) := by decide +kernel
theorem dX1_weightOf_20 : decode cX1_weightOf 20 = .ok (.ireturn, 1) := by decide +kernel
theorem dX1_countWith_0 : decode cX1_countWith 0 = .ok (.iconst 0, 1) := by decide +kernel
theorem dX1_countWith_1 : decode cX1_countWith 1 = .ok (.istore_n 3, 1) := by decide +kernel
theorem dX1_countWith_2 : decode cX1_countWith 2 = .ok (.iconst 0, 1) := by decide +kernel
theorem dX1_countWith_3 : decode cX1_countWith 3 = .ok (.istore 4, 2) := by decide +kernel
theorem dX1_countWith_5 : decode cX1_countWith 5 = .ok (.iload 4, 2) := by decide +kernel
theorem dX1_countWith_7 : decode cX1_countWith 7 = .ok (.bipush 10, 2) := by decide +kernel
theorem dX1_countWith_9 : decode cX1_countWith 9 = .ok (.if_icmp .ge 34, 3) := by decide +kernel
theorem dX1_countWith_12 : decode cX1_countWith 12 = .ok (.aload_n 0, 1) := by decide +kernel
theorem dX1_countWith_13 : decode cX1_countWith 13 = .ok (.getfield 9, 3) := by decide +kernel
theorem dX1_countWith_16 : decode cX1_countWith 16 = .ok (.iload 4, 2) := by decide +kernel
theorem dX1_countWith_18 : decode cX1_countWith 18 = .ok (.iaload, 1) := by decide +kernel
theorem dX1_countWith_19 : decode cX1_countWith 19 = .ok (.iload_n 1, 1) := by decide +kernel
theorem dX1_countWith_20 : decode cX1_countWith 20 = .ok (.if_icmp .ne 17, 3) := by decide +kernel
theorem dX1_countWith_23 : decode cX1_countWith 23 = .ok (.aload_n 0, 1) := by decide +kernel
theorem dX1_countWith_24 : decode cX1_countWith 24 = .ok (.getfield 15, 3) := by decide +kernel
theorem dX1_countWith_27 : decode cX1_countWith 27 = .ok (.iload 4, 2) := by decide +kernel
theorem dX1_countWith_29 : decode cX1_countWith 29 = .ok (.iaload, 1) := by decide +kernel
theorem dX1_countWith_30 : decode cX1_countWith 30 = .ok (.iload_n 2, 1) := by decide +kernel
theorem dX1_countWith_31 : decode cX1_countWith 31 = .ok (.if_icmp .ne 6, 3) := by decide +kernel
theorem dX1_countWith_34 : decode cX1_countWith 34 = .ok (.iinc 3 1, 3) := by decide +kernel
theorem dX1_countWith_37 : decode cX1_countWith 37 = .ok (.iinc 4 1, 3) := by decide +kernel
theorem dX1_countWith_40 : decode cX1_countWith 40 = .ok (.goto (-35), 3) := by decide +kernel
theorem dX1_countWith_43 : decode cX1_countWith 43 = .ok (.iload_n 3, 1) := by decide +kernel
theorem dX1_countWith_44 : decode cX1_countWith 44 = .ok (.ireturn, 1) := by decide +kernel
theorem dX1_firstWith_0 : decode cX1_firstWith 0 = .ok (.iconst 0, 1) := by decide +kernel
theorem dX1_firstWith_1 : decode cX1_firstWith 1 = .ok (.istore_n 3, 1) := by decide +kernel
theorem dX1_firstWith_2 : decode cX1_firstWith 2 = .ok (.iload_n 3, 1) := by decide +kernel
theorem dX1_firstWith_3 : decode cX1_firstWith 3 = .ok (.bipush 10, 2) := by decide +kernel
theorem dX1_firstWith_5 : decode cX1_firstWith 5 = .ok (.if_icmp .ge 31, 3) := by decide +kernel
theorem dX1_firstWith_8 : decode cX1_firstWith 8 = .ok (.aload_n 0, 1) := by decide +kernel
theorem dX1_firstWith_9 : decode cX1_firstWith 9 = .ok (.getfield 9, 3) := by decide +kernel
theorem dX1_firstWith_12 : decode cX1_firstWith 12 = .ok (.iload_n 3, 1) := by decide +kernel
theorem dX1_firstWith_13 : decode cX1_firstWith 13 = .ok (.iaload, 1) := by decide +kernel
theorem dX1_firstWith_14 : decode cX1_firstWith 14 = .ok (.iload_n 1, 1) := by decide +kernel
theorem dX1_firstWith_15 : decode cX1_firstWith 15 = .ok (.if_icmp .ne 15, 3) := by decide +kernel
theorem dX1_firstWith_18 : decode cX1_firstWith 18 = .ok (.aload_n 0, 1) := by decide +kernel
theorem dX1_firstWith_19 : decode cX1_firstWith 19 = .ok (.getfield 15, 3) := by decide +kernel
theorem dX1_firstWith_22 : decode cX1_firstWith 22 = .ok (.iload_n 3, 1) := by decide +kernel
theorem dX1_firstWith_23 : decode cX1_firstWith 23 = .ok (.iaload, 1) := by decide +kernel
theorem dX1_firstWith_24 : decode cX1_firstWith 24 = .ok (.iload_n 2, 1) := by decide +kernel
theorem dX1_firstWith_25 : decode cX1_firstWith 25 = .ok (.if_icmp .ne 5, 3) := by decide +kernel
theorem dX1_firstWith_28 : decode cX1_firstWith 28 = .ok (.iload_n 3, 1) := by decide +kernel
theorem dX1_firstWith_29 : decode cX1_firstWith 29 = .ok (.ireturn, 1) := by decide +kernel
theorem dX1_firstWith_30 : decode cX1_firstWith 30 = .ok (.iinc 3 1, 3) := by decide +kernel
theorem dX1_firstWith_33 : decode cX1_firstWith 33 = .ok (.goto (-31), 3) := by decide +kernel
theorem dX1_firstWith_36 : decode cX1_firstWith 36 = .ok (.bipush (-6), 2) := by decide +kernel
theorem dX1_firstWith_38 : decode cX1_firstWith 38 = .ok (.ireturn, 1) := by decide +kernel
theorem dX1_takenFor_0 : decode cX1_takenFor 0 = .ok (.iload_n 1, 1) := by decide +kernel
theorem dX1_takenFor_1 : decode cX1_takenFor 1 = .ok (.bipush 10, 2) := by decide +kernel
theorem dX1_takenFor_3 : decode cX1_takenFor 3 = .ok (.invokestatic 27, 3) := by decide +kernel
theorem dX1_takenFor_6 : decode cX1_takenFor 6 = .ok (.ifCond .eq 13, 3) := by decide +kernel
theorem dX1_takenFor_9 : decode cX1_takenFor 9 = .ok (.aload_n 0, 1) := by decide +kernel
theorem dX1_takenFor_10 : decode cX1_takenFor 10 = .ok (.getfield 18, 3) := by decide +kernel
theorem dX1_takenFor_13 : decode cX1_takenFor 13 = .ok (.iload_n 1, 1) := by decide +kernel
theorem dX1_takenFor_14 : decode cX1_takenFor 14 = .ok (.iaload, 1) := by decide +kernel
theorem dX1_takenFor_15 : decode cX1_takenFor 15 = .ok (.iload_n 3, 1) := by decide +kernel
theorem dX1_takenFor_16 : decode cX1_takenFor 16 = .ok (.if_icmp .le 6, 3) := by decide +kernel
theorem dX1_takenFor_19 : decode cX1_takenFor 19 = .ok (.bipush (-6), 2) := by decide +kernel
theorem dX1_takenFor_21 : decode cX1_takenFor 21 = .ok (.ireturn, 1) := by decide +kernel
theorem dX1_takenFor_22 : decode cX1_takenFor 22 = .ok (.iload_n 2, 1) := by decide +kernel
theorem dX1_takenFor_23 : decode cX1_takenFor 23 = .ok (.ifCond .eq 20, 3) := by decide +kernel
theorem dX1_takenFor_26 : decode cX1_takenFor 26 = .ok (.aload_n 0, 1) := by decide +kernel
theorem dX1_takenFor_27 : decode cX1_takenFor 27 = .ok (.aload_n 0, 1) := by decide +kernel
theorem dX1_takenFor_28 : decode cX1_takenFor 28 = .ok (.getfield 9, 3) := by decide +kernel
theorem dX1_takenFor_31 : decode cX1_takenFor 31 = .ok (.iload_n 1, 1) := by decide +kernel
theorem dX1_takenFor_32 : decode cX1_takenFor 32 = .ok (.iaload, 1) := by decide +kernel
theorem dX1_takenFor_33 : decode cX1_takenFor 33 = .ok (.aload_n 0, 1) := by decide +kernel
theorem dX1_takenFor_34 : decode cX1_takenFor 34 = .ok (.getfield 15, 3) := by decide +kernel
theorem dX1_takenFor_37 : decode cX1_takenFor 37 = .ok (.iload_n 1, 1) := by decide +kernel
theorem dX1_takenFor_38 : decode cX1_takenFor 38 = .ok (.iaload, 1) := by decide +kernel
theorem dX1_takenFor_39 : decode cX1_takenFor 39 = .ok (.invokevirtual 31, 3) := by decide +kernel
theorem dX1_takenFor_42 : decode cX1_takenFor 42 = .ok (.ireturn, 1) := by decide +kernel
theorem dX1_takenFor_43 : decode cX1_takenFor 43 = .ok (.aload_n 0, 1) := by decide +kernel
theorem dX1_takenFor_44 : decode cX1_takenFor 44 = .ok (.aload_n 0, 1) := by decide +kernel
theorem dX1_takenFor_45 : decode cX1_takenFor 45 = .ok (.getfield 15, 3) := by decide +kernel
theorem dX1_takenFor_48 : decode cX1_takenFor 48 = .ok (.iload_n 1, 1) := by decide +kernel
theorem dX1_takenFor_49 : decode cX1_takenFor 49 = .ok (.iaload, 1) := by decide +kernel
theorem dX1_takenFor_50 : decode cX1_takenFor 50 = .ok (.aload_n 0, 1) := by decide +kernel
theorem dX1_takenFor_51 : decode cX1_takenFor 51 = .ok (.getfield 9, 3) := by decide +kernel
theorem dX1_takenFor_54 : decode cX1_takenFor 54 = .ok (.iload_n 1, 1) := by decide +kernel
theorem dX1_takenFor_55 : decode cX1_takenFor 55 = .ok (.iaload, 1) := by decide +kernel
theorem dX1_takenFor_56 : decode cX1_takenFor 56 = .ok (.invokevirtual 31, 3) := by decide +kernel
theorem dX1_takenFor_59 : decode cX1_takenFor 59 = .ok (.ireturn, 1) := by decide +kernel
theorem dX2_init_0 : decode cX2_init 0 = .ok (.aload_n 0, 1) := by decide +kernel
theorem dX2_init_1 : decode cX2_init 1 = .ok (.invokespecial 3, 3) := by decide +kernel
theorem dX2_init_4 : decode cX2_init 4 = .ok (.aload_n 0, 1) := by decide +kernel
theorem dX2_init_5 : decode cX2_init 5 = .ok (.iconst 5, 1) := by decide +kernel
theorem dX2_init_6 : decode cX2_init 6 = .ok (.anewarray 9, 3) := by decide +kernel
theorem dX2_init_9 : decode cX2_init 9 = .ok (.putfield 11, 3) := by decide +kernel
theorem dX2_init_12 : decode cX2_init 12 = .ok (.aload_n 0, 1) := by decide +kernel
theorem dX2_init_13 : decode cX2_init 13 = .ok (.iconst 0, 1) := by decide +kernel
theorem dX2_init_14 : decode cX2_init 14 = .ok (.putfield 17, 3) := by decide +kernel
theorem dX2_init_17 : decode cX2_init 17 = .ok (.aload_n 0, 1) := by decide +kernel
theorem dX2_init_18 : decode cX2_init 18 = .ok (.iconst 0, 1) := by decide +kernel
theorem dX2_init_19 : decode cX2_init 19 = .ok (.putfield 21, 3) := by decide +kernel
theorem dX2_init_22 : decode cX2_init 22 = .ok (.iconst 0, 1) := by decide +kernel
theorem dX2_init_23 : decode cX2_init 23 = .ok (.istore_n 1, 1) := by decide +kernel
theorem dX2_init_24 : decode cX2_init 24 = .ok (.iload_n 1, 1) := by decide +kernel
theorem dX2_init_25 : decode cX2_init 25 = .ok (.iconst 5, 1) := by decide +kernel
theorem dX2_init_26 : decode cX2_init 26 = .ok (.if_icmp .ge 22, 3) := by decide +kernel
theorem dX2_init_29 : decode cX2_init 29 = .ok (.aload_n 0, 1) := by decide +kernel
theorem dX2_init_30 : decode cX2_init 30 = .ok (.getfield 11, 3) := by decide +kernel
theorem dX2_init_33 : decode cX2_init 33 = .ok (.iload_n 1, 1) := by decide +kernel
theorem dX2_init_34 : decode cX2_init 34 = .ok (.new 9, 3) := by decide +kernel
theorem dX2_init_37 : decode cX2_init 37 = .ok (.dup, 1) := by decide +kernel
theorem dX2_init_38 : decode cX2_init 38 = .ok (.invokespecial 24, 3) := by decide +kernel
theorem dX2_init_41 : decode cX2_init 41 = .ok (.aastore, 1) := by decide +kernel
theorem dX2_init_42 : decode cX2_init 42 = .ok (.iinc 1 1, 3) := by decide +kernel
theorem dX2_init_45 : decode cX2_init 45 = .ok (.goto (-21), 3) := by decide +kernel
theorem dX2_init_48 : decode cX2_init 48 = .ok (.return_, 1) := by decide +kernel
theorem dX2_size_0 : decode cX2_size 0 = .ok (.aload_n 0, 1) := by decide +kernel
theorem dX2_size_1 : decode cX2_size 1 = .ok (.getfield 21, 3) := by decide +kernel
theorem dX2_size_4 : decode cX2_size 4 = .ok (.ireturn, 1) := by decide +kernel
theorem dX2_record_0 : decode cX2_record 0 = .ok (.aload_n 0, 1) := by decide +kernel
theorem dX2_record_1 : decode cX2_record 1 = .ok (.aload_n 0, 1) := by decide +kernel
theorem dX2_record_2 : decode cX2_record 2 = .ok (.getfield 17, 3) := by decide +kernel
theorem dX2_record_5 : decode cX2_record 5 = .ok (.invokevirtual 25, 3) := by decide +kernel
theorem dX2_record_8 : decode cX2_record 8 = .ok (.astore_n 2, 1) := by decide +kernel
theorem dX2_record_9 : decode cX2_record 9 = .ok (.aload_n 2, 1) := by decide +kernel
theorem dX2_record_10 : decode cX2_record 10 = .ok (.ifnull 34, 3) := by decide +kernel
theorem dX2_record_13 : decode cX2_record 13 = .ok (.aload_n 2, 1) := by decide +kernel
theorem dX2_record_14 : decode cX2_record 14 = .ok (.aload_n 1, 1) := by decide +kernel
theorem dX2_record_15 : decode cX2_record 15 = .ok (.invokevirtual 29, 3) := by decide +kernel
theorem dX2_record_18 : decode cX2_record 18 = .ok (.aload_n 0, 1) := by decide +kernel
theorem dX2_record_19 : decode cX2_record 19 = .ok (.aload_n 0, 1) := by decide +kernel
theorem dX2_record_20 : decode cX2_record 20 = .ok (.getfield 17, 3) := by decide +kernel
theorem dX2_record_23 : decode cX2_record 23 = .ok (.iconst 1, 1) := by decide +kernel
theorem dX2_record_24 : decode cX2_record 24 = .ok (.iadd, 1) := by decide +kernel
theorem dX2_record_25 : decode cX2_record 25 = .ok (.iconst 5, 1) := by decide +kernel
theorem dX2_record_26 : decode cX2_record 26 = .ok (.irem, 1) := by decide +kernel
theorem dX2_record_27 : decode cX2_record 27 = .ok (.putfield 17, 3) := by decide +kernel
theorem dX2_record_30 : decode cX2_record 30 = .ok (.aload_n 0, 1) := by decide +kernel
theorem dX2_record_31 : decode cX2_record 31 = .ok (.aload_n 0, 1) := by decide +kernel
theorem dX2_record_32 : decode cX2_record 32 = .ok (.getfield 21, 3) := by decide +kernel
theorem dX2_record_35 : decode cX2_record 35 = .ok (.iconst 1, 1) := by decide +kernel
theorem dX2_record_36 : decode cX2_record 36 = .ok (.iadd, 1) := by decide +kernel
theorem dX2_record_37 : decode cX2_record 37 = .ok (.iconst 5, 1) := by decide +kernel
theorem dX2_record_38 : decode cX2_record 38 = .ok (.invokestatic 33, 3) := by decide +kernel
theorem dX2_record_41 : decode cX2_record 41 = .ok (.putfield 21, 3) := by decide +kernel
theorem dX2_record_44 : decode cX2_record 44 = .ok (.return_, 1) := by decide +kernel
theorem dX2_takeBack_0 : decode cX2_takeBack 0 = .ok (.aload_n 0, 1) := by decide +kernel
theorem dX2_takeBack_1 : decode cX2_takeBack 1 = .ok (.getfield 17, 3) := by decide +kernel
theorem dX2_takeBack_4 : decode cX2_takeBack 4 = .ok (.iconst 5, 1) := by decide +kernel
theorem dX2_takeBack_5 : decode cX2_takeBack 5 = .ok (.iadd, 1) := by decide +kernel
theorem dX2_takeBack_6 : decode cX2_takeBack 6 = .ok (.iconst 1, 1) := by decide +kernel
theorem dX2_takeBack_7 : decode cX2_takeBack 7 = .ok (.isub, 1) := by decide +kernel
theorem dX2_takeBack_8 : decode cX2_takeBack 8 = .ok (.iconst 5, 1) := by decide +kernel
theorem dX2_takeBack_9 : decode cX2_takeBack 9 = .ok (.irem, 1) := by decide +kernel
theorem dX2_takeBack_10 : decode cX2_takeBack 10 = .ok (.istore_n 2, 1) := by decide +kernel
theorem dX2_takeBack_11 : decode cX2_takeBack 11 = .ok (.aload_n 0, 1) := by decide +kernel
theorem dX2_takeBack_12 : decode cX2_takeBack 12 = .ok (.iload_n 2, 1) := by decide +kernel
theorem dX2_takeBack_13 : decode cX2_takeBack 13 = .ok (.invokevirtual 25, 3) := by decide +kernel
theorem dX2_takeBack_16 : decode cX2_takeBack 16 = .ok (.astore_n 3, 1) := by decide +kernel
theorem dX2_takeBack_17 : decode cX2_takeBack 17 = .ok (.aload_n 3, 1) := by decide +kernel
theorem dX2_takeBack_18 : decode cX2_takeBack 18 = .ok (.ifnull 30, 3) := by decide +kernel
theorem dX2_takeBack_21 : decode cX2_takeBack 21 = .ok (.aload_n 0, 1) := by decide +kernel
theorem dX2_takeBack_22 : decode cX2_takeBack 22 = .ok (.getfield 21, 3) := by decide +kernel
theorem dX2_takeBack_25 : decode cX2_takeBack 25 = .ok (.ifCond .le 23, 3) := by decide +kernel
theorem dX2_takeBack_28 : decode cX2_takeBack 28 = .ok (.aload_n 1, 1) := by decide +kernel
theorem dX2_takeBack_29 : decode cX2_takeBack 29 = .ok (.aload_n 3, 1) := by decide +kernel
theorem dX2_takeBack_30 : decode cX2_takeBack 30 = .ok (.invokevirtual 29, 3) := by decide +kernel
theorem dX2_takeBack_33 : decode cX2_takeBack 33 = .ok (.aload_n 0, 1) := by decide +kernel
theorem dX2_takeBack_34 : decode cX2_takeBack 34 = .ok (.iload_n 2, 1) := by decide +kernel
theorem dX2_takeBack_35 : decode cX2_takeBack 35 = .ok (.putfield 17, 3) := by decide +kernel
theorem dX2_takeBack_38 : decode cX2_takeBack 38 = .ok (.aload_n 0, 1) := by decide +kernel
theorem dX2_takeBack_39 : decode cX2_takeBack 39 = .ok (.dup, 1) := by decide +kernel
theorem dX2_takeBack_40 : decode cX2_takeBack 40 = .ok (.getfield 21, 3) := by decide +kernel
theorem dX2_takeBack_43 : decode cX2_takeBack 43 = .ok (.iconst 1, 1) := by decide +kernel
theorem dX2_takeBack_44 : decode cX2_takeBack 44 = .ok (.isub, 1) := by decide +kernel
theorem dX2_takeBack_45 : decode cX2_takeBack 45 = .ok (.putfield 21, 3) := by decide +kernel
theorem dX2_takeBack_48 : decode cX2_takeBack 48 = .ok (.return_, 1) := by decide +kernel
theorem dX2_slotAt_0 : decode cX2_slotAt 0 = .ok (.iload_n 1, 1) := by decide +kernel
theorem dX2_slotAt_1 : decode cX2_slotAt 1 = .ok (.iconst 5, 1) := by decide +kernel
theorem dX2_slotAt_2 : decode cX2_slotAt 2 = .ok (.invokestatic 39, 3) := by decide +kernel
theorem dX2_slotAt_5 : decode cX2_slotAt 5 = .ok (.ifCond .eq 12, 3) := by decide +kernel
theorem dX2_slotAt_8 : decode cX2_slotAt 8 = .ok (.aload_n 0, 1) := by decide +kernel
theorem dX2_slotAt_9 : decode cX2_slotAt 9 = .ok (.getfield 11, 3) := by decide +kernel
theorem dX2_slotAt_12 : decode cX2_slotAt 12 = .ok (.iload_n 1, 1) := by decide +kernel
theorem dX2_slotAt_13 : decode cX2_slotAt 13 = .ok (.aaload, 1) := by decide +kernel
theorem dX2_slotAt_14 : decode cX2_slotAt 14 = .ok (.goto 4, 3) := by decide +kernel
theorem dX2_slotAt_17 : decode cX2_slotAt 17 = .ok (.aconst_null, 1) := by decide +kernel
theorem dX2_slotAt_18 : decode cX2_slotAt 18 = .ok (.areturn, 1) := by decide +kernel
theorem dX3_init_0 : decode cX3_init 0 = .ok (.aload_n 0, 1) := by decide +kernel
theorem dX3_init_1 : decode cX3_init 1 = .ok (.invokespecial 3, 3) := by decide +kernel
theorem dX3_init_4 : decode cX3_init 4 = .ok (.aload_n 0, 1) := by decide +kernel
theorem dX3_init_5 : decode cX3_init 5 = .ok (.bipush 20, 2) := by decide +kernel
theorem dX3_init_7 : decode cX3_init 7 = .ok (.newarray .int, 2) := by decide +kernel
theorem dX3_init_9 : decode cX3_init 9 = .ok (.putfield 9, 3) := by decide +kernel
theorem dX3_init_12 : decode cX3_init 12 = .ok (.aload_n 0, 1) := by decide +kernel
theorem dX3_init_13 : decode cX3_init 13 = .ok (.iconst 5, 1) := by decide +kernel
theorem dX3_init_14 : decode cX3_init 14 = .ok (.newarray .int, 2) := by decide +kernel
theorem dX3_init_16 : decode cX3_init 16 = .ok (.putfield 15, 3) := by decide +kernel
theorem dX3_init_19 : decode cX3_init 19 = .ok (.return_, 1) := by decide +kernel
theorem dX3_copyFrom_0 : decode cX3_copyFrom 0 = .ok (.aload_n 1, 1) := by decide +kernel
theorem dX3_copyFrom_1 : decode cX3_copyFrom 1 = .ok (.getfield 9, 3) := by decide +kernel
theorem dX3_copyFrom_4 : decode cX3_copyFrom 4 = .ok (.iconst 0, 1) := by decide +kernel
theorem dX3_copyFrom_5 : decode cX3_copyFrom 5 = .ok (.aload_n 0, 1) := by decide +kernel
theorem dX3_copyFrom_6 : decode cX3_copyFrom 6 = .ok (.getfield 9, 3) := by decide +kernel
theorem dX3_copyFrom_9 : decode cX3_copyFrom 9 = .ok (.iconst 0, 1) := by decide +kernel
theorem dX3_copyFrom_10 : decode cX3_copyFrom 10 = .ok (.bipush 20, 2) := by decide +kernel
theorem dX3_copyFrom_12 : decode cX3_copyFrom 12 = .ok (.invokestatic 18, 3) := by decide +kernel
theorem dX3_copyFrom_15 : decode cX3_copyFrom 15 = .ok (.aload_n 1, 1) := by decide +kernel
theorem dX3_copyFrom_16 : decode cX3_copyFrom 16 = .ok (.getfield 15, 3) := by decide +kernel
theorem dX3_copyFrom_19 : decode cX3_copyFrom 19 = .ok (.iconst 0, 1) := by decide +kernel
theorem dX3_copyFrom_20 : decode cX3_copyFrom 20 = .ok (.aload_n 0, 1) := by decide +kernel
theorem dX3_copyFrom_21 : decode cX3_copyFrom 21 = .ok (.getfield 15, 3) := by decide +kernel
theorem dX3_copyFrom_24 : decode cX3_copyFrom 24 = .ok (.iconst 0, 1) := by decide +kernel
theorem dX3_copyFrom_25 : decode cX3_copyFrom 25 = .ok (.iconst 5, 1) := by decide +kernel
theorem dX3_copyFrom_26 : decode cX3_copyFrom 26 = .ok (.invokestatic 18, 3) := by decide +kernel
theorem dX3_copyFrom_29 : decode cX3_copyFrom 29 = .ok (.return_, 1) := by decide +kernel
theorem dX3_clear_0 : decode cX3_clear 0 = .ok (.iconst 0, 1) := by decide +kernel
theorem dX3_clear_1 : decode cX3_clear 1 = .ok (.istore_n 1, 1) := by decide +kernel
theorem dX3_clear_2 : decode cX3_clear 2 = .ok (.iload_n 1, 1) := by decide +kernel
theorem dX3_clear_3 : decode cX3_clear 3 = .ok (.iconst 5, 1) := by decide +kernel
theorem dX3_clear_4 : decode cX3_clear 4 = .ok (.if_icmp .ge 16, 3) := by decide +kernel
theorem dX3_clear_7 : decode cX3_clear 7 = .ok (.aload_n 0, 1) := by decide +kernel
theorem dX3_clear_8 : decode cX3_clear 8 = .ok (.getfield 15, 3) := by decide +kernel
theorem dX3_clear_11 : decode cX3_clear 11 = .ok (.iload_n 1, 1) := by decide +kernel
theorem dX3_clear_12 : decode cX3_clear 12 = .ok (.iconst 0, 1) := by decide +kernel
theorem dX3_clear_13 : decode cX3_clear 13 = .ok (.iastore, 1) := by decide +kernel
theorem dX3_clear_14 : decode cX3_clear 14 = .ok (.iinc 1 1, 3) := by decide +kernel
theorem dX3_clear_17 : decode cX3_clear 17 = .ok (.goto (-15), 3) := by decide +kernel
theorem dX3_clear_20 : decode cX3_clear 20 = .ok (.return_, 1) := by decide +kernel
theorem dX3_sizeOf_0 : decode cX3_sizeOf 0 = .ok (.iload_n 1, 1) := by decide +kernel
theorem dX3_sizeOf_1 : decode cX3_sizeOf 1 = .ok (.iconst 5, 1) := by decide +kernel
theorem dX3_sizeOf_2 : decode cX3_sizeOf 2 = .ok (.invokestatic 24, 3) := by decide +kernel
theorem dX3_sizeOf_5 : decode cX3_sizeOf 5 = .ok (.ifCond .eq 12, 3) := by decide +kernel
theorem dX3_sizeOf_8 : decode cX3_sizeOf 8 = .ok (.aload_n 0, 1) := by decide +kernel
theorem dX3_sizeOf_9 : decode cX3_sizeOf 9 = .ok (.getfield 15, 3) := by decide +kernel
theorem dX3_sizeOf_12 : decode cX3_sizeOf 12 = .ok (.iload_n 1, 1) := by decide +kernel
theorem dX3_sizeOf_13 : decode cX3_sizeOf 13 = .ok (.iaload, 1) := by decide +kernel
theorem dX3_sizeOf_14 : decode cX3_sizeOf 14 = .ok (.goto 4, 3) := by decide +kernel
theorem dX3_sizeOf_17 : decode cX3_sizeOf 17 = .ok (.iconst 0, 1) := by decide +kernel
theorem dX3_sizeOf_18 : decode cX3_sizeOf 18 = .ok (.ireturn, 1) := by decide +kernel
theorem dX3_has_0 : decode cX3_has 0 = .ok (.iload_n 1, 1) := by decide +kernel
theorem dX3_has_1 : decode cX3_has 1 = .ok (.ifCond .lt 32, 3) := by decide +kernel
theorem dX3_has_4 : decode cX3_has 4 = .ok (.iload_n 1, 1) := by decide +kernel
theorem dX3_has_5 : decode cX3_has 5 = .ok (.iconst 5, 1) := by decide +kernel
theorem dX3_has_6 : decode cX3_has 6 = .ok (.if_icmp .ge 27, 3) := by decide +kernel
theorem dX3_has_9 : decode cX3_has 9 = .ok (.iload_n 2, 1) := by decide +kernel
theorem dX3_has_10 : decode cX3_has 10 = .ok (.iconst 1, 1) := by decide +kernel
theorem dX3_has_11 : decode cX3_has 11 = .ok (.if_icmp .lt 22, 3) := by decide +kernel
theorem dX3_has_14 : decode cX3_has 14 = .ok (.iload_n 2, 1) := by decide +kernel
theorem dX3_has_15 : decode cX3_has 15 = .ok (.iconst 4, 1) := by decide +kernel
theorem dX3_has_16 : decode cX3_has 16 = .ok (.if_icmp .gt 17, 3) := by decide +kernel
theorem dX3_has_19 : decode cX3_has 19 = .ok (.iload_n 2, 1) := by decide +kernel
theorem dX3_has_20 : decode cX3_has 20 = .ok (.aload_n 0, 1) := by decide +kernel
theorem dX3_has_21 : decode cX3_has 21 = .ok (.getfield 15, 3) := by decide +kernel
theorem dX3_has_24 : decode cX3_has 24 = .ok (.iload_n 1, 1) := by decide +kernel
theorem dX3_has_25 : decode cX3_has 25 = .ok (.iaload, 1) := by decide +kernel
theorem dX3_has_26 : decode cX3_has 26 = .ok (.if_icmp .gt 7, 3) := by decide +kernel
theorem dX3_has_29 : decode cX3_has 29 = .ok (.iconst 1, 1) := by decide +kernel
theorem dX3_has_30 : decode cX3_has 30 = .ok (.goto 4, 3) := by decide +kernel
theorem dX3_has_33 : decode cX3_has 33 = .ok (.iconst 0, 1) := by decide +kernel
theorem dX3_has_34 : decode cX3_has 34 = .ok (.ireturn, 1) := by decide +kernel
theorem dX3_signAt_0 : decode cX3_signAt 0 = .ok (.aload_n 0, 1) := by decide +kernel
theorem dX3_signAt_1 : decode cX3_signAt 1 = .ok (.iload_n 1, 1) := by decide +kernel
theorem dX3_signAt_2 : decode cX3_signAt 2 = .ok (.iload_n 2, 1) := by decide +kernel
theorem dX3_signAt_3 : decode cX3_signAt 3 = .ok (.invokevirtual 28, 3) := by decide +kernel
theorem dX3_signAt_6 : decode cX3_signAt 6 = .ok (.ifCond .eq 18, 3) := by decide +kernel
theorem dX3_signAt_9 : decode cX3_signAt 9 = .ok (.aload_n 0, 1) := by decide +kernel
theorem dX3_signAt_10 : decode cX3_signAt 10 = .ok (.getfield 9, 3) := by decide +kernel
theorem dX3_signAt_13 : decode cX3_signAt 13 = .ok (.iload_n 1, 1) := by decide +kernel
theorem dX3_signAt_14 : decode cX3_signAt 14 = .ok (.iconst 4, 1) := by decide +kernel
theorem dX3_signAt_15 : decode cX3_signAt 15 = .ok (.imul, 1) := by decide +kernel
theorem dX3_signAt_16 : decode cX3_signAt 16 = .ok (.iload_n 2, 1) := by decide +kernel
theorem dX3_signAt_17 : decode cX3_signAt 17 = .ok (.iadd, 1) := by decide +kernel
theorem dX3_signAt_18 : decode cX3_signAt 18 = .ok (.iconst 1, 1) := by decide +kernel
theorem dX3_signAt_19 : decode cX3_signAt 19 = .ok (.isub, 1) := by decide +kernel
theorem dX3_signAt_20 : decode cX3_signAt 20 = .ok (.iaload, 1) := by decide +kernel
theorem dX3_signAt_21 : decode cX3_signAt 21 = .ok (.goto 4, 3) := by decide +kernel
theorem dX3_signAt_24 : decode cX3_signAt 24 = .ok (.iconst (-1), 1) := by decide +kernel
theorem dX3_signAt_25 : decode cX3_signAt 25 = .ok (.ireturn, 1) := by decide +kernel
theorem dX3_flagAt_0 : decode cX3_flagAt 0 = .ok (.aload_n 0, 1) := by decide +kernel
theorem dX3_flagAt_1 : decode cX3_flagAt 1 = .ok (.iload_n 1, 1) := by decide +kernel
theorem dX3_flagAt_2 : decode cX3_flagAt 2 = .ok (.iload_n 2, 1) := by decide +kernel
theorem dX3_flagAt_3 : decode cX3_flagAt 3 = .ok (.invokevirtual 31, 3) := by decide +kernel
theorem dX3_flagAt_6 : decode cX3_flagAt 6 = .ok (.istore_n 3, 1) := by decide +kernel
theorem dX3_flagAt_7 : decode cX3_flagAt 7 = .ok (.iconst 1, 1) := by decide +kernel
theorem dX3_flagAt_8 : decode cX3_flagAt 8 = .ok (.istore 4, 2) := by decide +kernel
theorem dX3_flagAt_10 : decode cX3_flagAt 10 = .ok (.iload 4, 2) := by decide +kernel
theorem dX3_flagAt_12 : decode cX3_flagAt 12 = .ok (.iconst 4, 1) := by decide +kernel
theorem dX3_flagAt_13 : decode cX3_flagAt 13 = .ok (.if_icmp .ge 25, 3) := by decide +kernel
theorem dX3_flagAt_16 : decode cX3_flagAt 16 = .ok (.iload_n 3, 1) := by decide +kernel
theorem dX3_flagAt_17 : decode cX3_flagAt 17 = .ok (.bipush 10, 2) := by decide +kernel
theorem dX3_flagAt_19 : decode cX3_flagAt 19 = .ok (.if_icmp .le 19, 3) := by decide +kernel
theorem dX3_flagAt_22 : decode cX3_flagAt 22 = .ok (.aload_n 0, 1) := by decide +kernel
theorem dX3_flagAt_23 : decode cX3_flagAt 23 = .ok (.iload_n 1, 1) := by decide +kernel
theorem dX3_flagAt_24 : decode cX3_flagAt 24 = .ok (.iload_n 3, 1) := by decide +kernel
theorem dX3_flagAt_25 : decode cX3_flagAt 25 = .ok (.bipush 10, 2) := by decide +kernel
theorem dX3_flagAt_27 : decode cX3_flagAt 27 = .ok (.isub, 1) := by decide +kernel
theorem dX3_flagAt_28 : decode cX3_flagAt 28 = .ok (.invokevirtual 31, 3) := by decide +kernel
theorem dX3_flagAt_31 : decode cX3_flagAt 31 = .ok (.istore_n 3, 1) := by decide +kernel
theorem dX3_flagAt_32 : decode cX3_flagAt 32 = .ok (.iinc 4 1, 3) := by decide +kernel
theorem dX3_flagAt_35 : decode cX3_flagAt 35 = .ok (.goto (-25), 3) := by decide +kernel
theorem dX3_flagAt_38 : decode cX3_flagAt 38 = .ok (.iload_n 3, 1) := by decide +kernel
theorem dX3_flagAt_39 : decode cX3_flagAt 39 = .ok (.ireturn, 1) := by decide +kernel
theorem dX3_add_0 : decode cX3_add 0 = .ok (.iload_n 1, 1) := by decide +kernel
theorem dX3_add_1 : decode cX3_add 1 = .ok (.iconst 5, 1) := by decide +kernel
theorem dX3_add_2 : decode cX3_add 2 = .ok (.invokestatic 24, 3) := by decide +kernel
theorem dX3_add_5 : decode cX3_add 5 = .ok (.ifCond .eq 42, 3) := by decide +kernel
theorem dX3_add_8 : decode cX3_add 8 = .ok (.aload_n 0, 1) := by decide +kernel
theorem dX3_add_9 : decode cX3_add 9 = .ok (.getfield 15, 3) := by decide +kernel
theorem dX3_add_12 : decode cX3_add 12 = .ok (.iload_n 1, 1) := by decide +kernel
theorem dX3_add_13 : decode cX3_add 13 = .ok (.iaload, 1) := by decide +kernel
theorem dX3_add_14 : decode cX3_add 14 = .ok (.iconst 4, 1) := by decide +kernel
theorem dX3_add_15 : decode cX3_add 15 = .ok (.invokestatic 24, 3) := by decide +kernel
theorem dX3_add_18 : decode cX3_add 18 = .ok (.ifCond .eq 29, 3) := by decide +kernel
theorem dX3_add_21 : decode cX3_add 21 = .ok (.aload_n 0, 1) := by decide +kernel
theorem dX3_add_22 : decode cX3_add 22 = .ok (.getfield 9, 3) := by decide +kernel
theorem dX3_add_25 : decode cX3_add 25 = .ok (.iload_n 1, 1) := by decide +kernel
theorem dX3_add_26 : decode cX3_add 26 = .ok (.iconst 4, 1) := by decide +kernel
theorem dX3_add_27 : decode cX3_add 27 = .ok (.imul, 1) := by decide +kernel
theorem dX3_add_28 : decode cX3_add 28 = .ok (.aload_n 0, 1) := by decide +kernel
theorem dX3_add_29 : decode cX3_add 29 = .ok (.getfield 15, 3) := by decide +kernel
theorem dX3_add_32 : decode cX3_add 32 = .ok (.iload_n 1, 1) := by decide +kernel
theorem dX3_add_33 : decode cX3_add 33 = .ok (.iaload, 1) := by decide +kernel
theorem dX3_add_34 : decode cX3_add 34 = .ok (.iadd, 1) := by decide +kernel
theorem dX3_add_35 : decode cX3_add 35 = .ok (.iload_n 2, 1) := by decide +kernel
theorem dX3_add_36 : decode cX3_add 36 = .ok (.iastore, 1) := by decide +kernel
theorem dX3_add_37 : decode cX3_add 37 = .ok (.aload_n 0, 1) := by decide +kernel
theorem dX3_add_38 : decode cX3_add 38 = .ok (.getfield 15, 3) := by decide +kernel
theorem dX3_add_41 : decode cX3_add 41 = .ok (.iload_n 1, 1) := by decide +kernel
theorem dX3_add_42 : decode cX3_add 42 = .ok (.dup2, 1) := by decide +kernel
theorem dX3_add_43 : decode cX3_add 43 = .ok (.iaload, 1) := by decide +kernel
theorem dX3_add_44 : decode cX3_add 44 = .ok (.iconst 1, 1) := by decide +kernel
theorem dX3_add_45 : decode cX3_add 45 = .ok (.iadd, 1) := by decide +kernel
theorem dX3_add_46 : decode cX3_add 46 = .ok (.iastore, 1) := by decide +kernel
theorem dX3_add_47 : decode cX3_add 47 = .ok (.return_, 1) := by decide +kernel
theorem dX3_removeLowest_0 : decode cX3_removeLowest 0 = .ok (.aload_n 0, 1) := by decide +kernel
theorem dX3_removeLowest_1 : decode cX3_removeLowest 1 = .ok (.iload_n 1, 1) := by decide +kernel
theorem dX3_removeLowest_2 : decode cX3_removeLowest 2 = .ok (.aload_n 0, 1) := by decide +kernel
theorem dX3_removeLowest_3 : decode cX3_removeLowest 3 = .ok (.iload_n 1, 1) := by decide +kernel
theorem dX3_removeLowest_4 : decode cX3_removeLowest 4 = .ok (.invokevirtual 35, 3) := by decide +kernel
theorem dX3_removeLowest_7 : decode cX3_removeLowest 7 = .ok (.invokevirtual 31, 3) := by decide +kernel
theorem dX3_removeLowest_10 : decode cX3_removeLowest 10 = .ok (.istore_n 2, 1) := by decide +kernel
theorem dX3_removeLowest_11 : decode cX3_removeLowest 11 = .ok (.iload_n 2, 1) := by decide +kernel
theorem dX3_removeLowest_12 : decode cX3_removeLowest 12 = .ok (.iconst (-1), 1) := by decide +kernel
theorem dX3_removeLowest_13 : decode cX3_removeLowest 13 = .ok (.if_icmp .eq 13, 3) := by decide +kernel
theorem dX3_removeLowest_16 : decode cX3_removeLowest 16 = .ok (.aload_n 0, 1) := by decide +kernel
theorem dX3_removeLowest_17 : decode cX3_removeLowest 17 = .ok (.getfield 15, 3) := by decide +kernel
theorem dX3_removeLowest_20 : decode cX3_removeLowest 20 = .ok (.iload_n 1, 1) := by decide +kernel
theorem dX3_removeLowest_21 : decode cX3_removeLowest 21 = .ok (.dup2, 1) := by decide +kernel
theorem dX3_removeLowest_22 : decode cX3_removeLowest 22 = .ok (.iaload, 1) := by decide +kernel
theorem dX3_removeLowest_23 : decode cX3_removeLowest 23 = .ok (.iconst 1, 1) := by decide +kernel
theorem dX3_removeLowest_24 : decode cX3_removeLowest 24 = .ok (.isub, 1) := by decide +kernel
theorem dX3_removeLowest_25 : decode cX3_removeLowest 25 = .ok (.iastore, 1) := by decide +kernel
theorem dX3_removeLowest_26 : decode cX3_removeLowest 26 = .ok (.iload_n 2, 1) := by decide +kernel
theorem dX3_removeLowest_27 : decode cX3_removeLowest 27 = .ok (.ireturn, 1) := by decide +kernel
theorem dX3_swap_0 : decode cX3_swap 0 = .ok (.iload_n 1, 1) := by decide +kernel
theorem dX3_swap_1 : decode cX3_swap 1 = .ok (.iconst 5, 1) := by decide +kernel
theorem dX3_swap_2 : decode cX3_swap 2 = .ok (.invokestatic 24, 3) := by decide +kernel
theorem dX3_swap_5 : decode cX3_swap 5 = .ok (.ifCond .eq 11, 3) := by decide +kernel
theorem dX3_swap_8 : decode cX3_swap 8 = .ok (.iload_n 2, 1) := by decide +kernel
theorem dX3_swap_9 : decode cX3_swap 9 = .ok (.iconst 5, 1) := by decide +kernel
theorem dX3_swap_10 : decode cX3_swap 10 = .ok (.invokestatic 24, 3) := by decide +kernel
theorem dX3_swap_13 : decode cX3_swap 13 = .ok (.ifCond .ne 4, 3) := by decide +kernel
theorem dX3_swap_16 : decode cX3_swap 16 = .ok (.return_, 1) := by decide +kernel
theorem dX3_swap_17 : decode cX3_swap 17 = .ok (.iconst 0, 1) := by decide +kernel
theorem dX3_swap_18 : decode cX3_swap 18 = .ok (.istore_n 3, 1) := by decide +kernel
theorem dX3_swap_19 : decode cX3_swap 19 = .ok (.iload_n 3, 1) := by decide +kernel
theorem dX3_swap_20 : decode cX3_swap 20 = .ok (.iconst 4, 1) := by decide +kernel
theorem dX3_swap_21 : decode cX3_swap 21 = .ok (.if_icmp .ge 53, 3) := by decide +kernel
theorem dX3_swap_24 : decode cX3_swap 24 = .ok (.aload_n 0, 1) := by decide +kernel
theorem dX3_swap_25 : decode cX3_swap 25 = .ok (.getfield 9, 3) := by decide +kernel
theorem dX3_swap_28 : decode cX3_swap 28 = .ok (.iload_n 1, 1) := by decide +kernel
theorem dX3_swap_29 : decode cX3_swap 29 = .ok (.iconst 4, 1) := by decide +kernel
theorem dX3_swap_30 : decode cX3_swap 30 = .ok (.imul, 1) := by decide +kernel
theorem dX3_swap_31 : decode cX3_swap 31 = .ok (.iload_n 3, 1) := by decide +kernel
theorem dX3_swap_32 : decode cX3_swap 32 = .ok (.iadd, 1) := by decide +kernel
theorem dX3_swap_33 : decode cX3_swap 33 = .ok (.iaload, 1) := by decide +kernel
theorem dX3_swap_34 : decode cX3_swap 34 = .ok (.istore 4, 2) := by decide +kernel
theorem dX3_swap_36 : decode cX3_swap 36 = .ok (.aload_n 0, 1) := by decide +kernel
theorem dX3_swap_37 : decode cX3_swap 37 = .ok (.getfield 9, 3) := by decide +kernel
theorem dX3_swap_40 : decode cX3_swap 40 = .ok (.iload_n 1, 1) := by decide +kernel
theorem dX3_swap_41 : decode cX3_swap 41 = .ok (.iconst 4, 1) := by decide +kernel
theorem dX3_swap_42 : decode cX3_swap 42 = .ok (.imul, 1) := by decide +kernel
theorem dX3_swap_43 : decode cX3_swap 43 = .ok (.iload_n 3, 1) := by decide +kernel
theorem dX3_swap_44 : decode cX3_swap 44 = .ok (.iadd, 1) := by decide +kernel
theorem dX3_swap_45 : decode cX3_swap 45 = .ok (.aload_n 0, 1) := by decide +kernel
theorem dX3_swap_46 : decode cX3_swap 46 = .ok (.getfield 9, 3) := by decide +kernel
theorem dX3_swap_49 : decode cX3_swap 49 = .ok (.iload_n 2, 1) := by decide +kernel
theorem dX3_swap_50 : decode cX3_swap 50 = .ok (.iconst 4, 1) := by decide +kernel
theorem dX3_swap_51 : decode cX3_swap 51 = .ok (.imul, 1) := by decide +kernel
theorem dX3_swap_52 : decode cX3_swap 52 = .ok (.iload_n 3, 1) := by decide +kernel
theorem dX3_swap_53 : decode cX3_swap 53 = .ok (.iadd, 1) := by decide +kernel
theorem dX3_swap_54 : decode cX3_swap 54 = .ok (.iaload, 1) := by decide +kernel
theorem dX3_swap_55 : decode cX3_swap 55 = .ok (.iastore, 1) := by decide +kernel
theorem dX3_swap_56 : decode cX3_swap 56 = .ok (.aload_n 0, 1) := by decide +kernel
theorem dX3_swap_57 : decode cX3_swap 57 = .ok (.getfield 9, 3) := by decide +kernel
theorem dX3_swap_60 : decode cX3_swap 60 = .ok (.iload_n 2, 1) := by decide +kernel
theorem dX3_swap_61 : decode cX3_swap 61 = .ok (.iconst 4, 1) := by decide +kernel
theorem dX3_swap_62 : decode cX3_swap 62 = .ok (.imul, 1) := by decide +kernel
theorem dX3_swap_63 : decode cX3_swap 63 = .ok (.iload_n 3, 1) := by decide +kernel
theorem dX3_swap_64 : decode cX3_swap 64 = .ok (.iadd, 1) := by decide +kernel
theorem dX3_swap_65 : decode cX3_swap 65 = .ok (.iload 4, 2) := by decide +kernel
theorem dX3_swap_67 : decode cX3_swap 67 = .ok (.iastore, 1) := by decide +kernel
theorem dX3_swap_68 : decode cX3_swap 68 = .ok (.iinc 3 1, 3) := by decide +kernel
theorem dX3_swap_71 : decode cX3_swap 71 = .ok (.goto (-52), 3) := by decide +kernel
theorem dX3_swap_74 : decode cX3_swap 74 = .ok (.aload_n 0, 1) := by decide +kernel
theorem dX3_swap_75 : decode cX3_swap 75 = .ok (.getfield 15, 3) := by decide +kernel
theorem dX3_swap_78 : decode cX3_swap 78 = .ok (.iload_n 1, 1) := by decide +kernel
theorem dX3_swap_79 : decode cX3_swap 79 = .ok (.iaload, 1) := by decide +kernel
theorem dX3_swap_80 : decode cX3_swap 80 = .ok (.istore_n 3, 1) := by decide +kernel
theorem dX3_swap_81 : decode cX3_swap 81 = .ok (.aload_n 0, 1) := by decide +kernel
theorem dX3_swap_82 : decode cX3_swap 82 = .ok (.getfield 15, 3) := by decide +kernel
theorem dX3_swap_85 : decode cX3_swap 85 = .ok (.iload_n 1, 1) := by decide +kernel
theorem dX3_swap_86 : decode cX3_swap 86 = .ok (.aload_n 0, 1) := by decide +kernel
theorem dX3_swap_87 : decode cX3_swap 87 = .ok (.getfield 15, 3) := by decide +kernel
theorem dX3_swap_90 : decode cX3_swap 90 = .ok (.iload_n 2, 1) := by decide +kernel
theorem dX3_swap_91 : decode cX3_swap 91 = .ok (.iaload, 1) := by decide +kernel
theorem dX3_swap_92 : decode cX3_swap 92 = .ok (.iastore, 1) := by decide +kernel
theorem dX3_swap_93 : decode cX3_swap 93 = .ok (.aload_n 0, 1) := by decide +kernel
theorem dX3_swap_94 : decode cX3_swap 94 = .ok (.getfield 15, 3) := by decide +kernel
theorem dX3_swap_97 : decode cX3_swap 97 = .ok (.iload_n 2, 1) := by decide +kernel
theorem dX3_swap_98 : decode cX3_swap 98 = .ok (.iload_n 3, 1) := by decide +kernel
theorem dX3_swap_99 : decode cX3_swap 99 = .ok (.iastore, 1) := by decide +kernel
theorem dX3_swap_100 : decode cX3_swap 100 = .ok (.return_, 1) := by decide +kernel
theorem dX3_countAll_0 : decode cX3_countAll 0 = .ok (.iconst 0, 1) := by decide +kernel
theorem dX3_countAll_1 : decode cX3_countAll 1 = .ok (.istore_n 1, 1) := by decide +kernel
theorem dX3_countAll_2 : decode cX3_countAll 2 = .ok (.iconst 0, 1) := by decide +kernel
theorem dX3_countAll_3 : decode cX3_countAll 3 = .ok (.istore_n 2, 1) := by decide +kernel
theorem dX3_countAll_4 : decode cX3_countAll 4 = .ok (.iload_n 2, 1) := by decide +kernel
theorem dX3_countAll_5 : decode cX3_countAll 5 = .ok (.iconst 5, 1) := by decide +kernel
theorem dX3_countAll_6 : decode cX3_countAll 6 = .ok (.if_icmp .ge 18, 3) := by decide +kernel
theorem dX3_countAll_9 : decode cX3_countAll 9 = .ok (.iload_n 1, 1) := by decide +kernel
theorem dX3_countAll_10 : decode cX3_countAll 10 = .ok (.aload_n 0, 1) := by decide +kernel
theorem dX3_countAll_11 : decode cX3_countAll 11 = .ok (.getfield 15, 3) := by decide +kernel
theorem dX3_countAll_14 : decode cX3_countAll 14 = .ok (.iload_n 2, 1) := by decide +kernel
theorem dX3_countAll_15 : decode cX3_countAll 15 = .ok (.iaload, 1) := by decide +kernel
theorem dX3_countAll_16 : decode cX3_countAll 16 = .ok (.iadd, 1) := by decide +kernel
theorem dX3_countAll_17 : decode cX3_countAll 17 = .ok (.istore_n 1, 1) := by decide +kernel
theorem dX3_countAll_18 : decode cX3_countAll 18 = .ok (.iinc 2 1, 3) := by decide +kernel
theorem dX3_countAll_21 : decode cX3_countAll 21 = .ok (.goto (-17), 3) := by decide +kernel
theorem dX3_countAll_24 : decode cX3_countAll 24 = .ok (.iload_n 1, 1) := by decide +kernel
theorem dX3_countAll_25 : decode cX3_countAll 25 = .ok (.ireturn, 1) := by decide +kernel
theorem dX3_countNotEmpty_0 : decode cX3_countNotEmpty 0 = .ok (.iconst 0, 1) := by decide +kernel
theorem dX3_countNotEmpty_1 : decode cX3_countNotEmpty 1 = .ok (.istore_n 1, 1) := by decide +kernel
theorem dX3_countNotEmpty_2 : decode cX3_countNotEmpty 2 = .ok (.iconst 0, 1) := by decide +kernel
theorem dX3_countNotEmpty_3 : decode cX3_countNotEmpty 3 = .ok (.istore_n 2, 1) := by decide +kernel
theorem dX3_countNotEmpty_4 : decode cX3_countNotEmpty 4 = .ok (.iload_n 2, 1) := by decide +kernel
theorem dX3_countNotEmpty_5 : decode cX3_countNotEmpty 5 = .ok (.iconst 5, 1) := by decide +kernel
theorem dX3_countNotEmpty_6 : decode cX3_countNotEmpty 6 = .ok (.if_icmp .ge 21, 3) := by decide +kernel
theorem dX3_countNotEmpty_9 : decode cX3_countNotEmpty 9 = .ok (.aload_n 0, 1) := by decide +kernel
theorem dX3_countNotEmpty_10 : decode cX3_countNotEmpty 10 = .ok (.getfield 15, 3) := by decide +kernel
theorem dX3_countNotEmpty_13 : decode cX3_countNotEmpty 13 = .ok (.iload_n 2, 1) := by decide +kernel
theorem dX3_countNotEmpty_14 : decode cX3_countNotEmpty 14 = .ok (.iaload, 1) := by decide +kernel
theorem dX3_countNotEmpty_15 : decode cX3_countNotEmpty 15 = .ok (.ifCond .le 6, 3) := by decide +kernel
theorem dX3_countNotEmpty_18 : decode cX3_countNotEmpty 18 = .ok (.iinc 1 1, 3) := by decide +kernel
theorem dX3_countNotEmpty_21 : decode cX3_countNotEmpty 21 = .ok (.iinc 2 1, 3) := by decide +kernel
theorem dX3_countNotEmpty_24 : decode cX3_countNotEmpty 24 = .ok (.goto (-20), 3) := by decide +kernel
theorem dX3_countNotEmpty_27 : decode cX3_countNotEmpty 27 = .ok (.iload_n 1, 1) := by decide +kernel
theorem dX3_countNotEmpty_28 : decode cX3_countNotEmpty 28 = .ok (.ireturn, 1) := by decide +kernel
theorem dX3_countOf_0 : decode cX3_countOf 0 = .ok (.iconst 0, 1) := by decide +kernel
theorem dX3_countOf_1 : decode cX3_countOf 1 = .ok (.istore_n 2, 1) := by decide +kernel
theorem dX3_countOf_2 : decode cX3_countOf 2 = .ok (.iconst 0, 1) := by decide +kernel
theorem dX3_countOf_3 : decode cX3_countOf 3 = .ok (.istore_n 3, 1) := by decide +kernel
theorem dX3_countOf_4 : decode cX3_countOf 4 = .ok (.iload_n 3, 1) := by decide +kernel
theorem dX3_countOf_5 : decode cX3_countOf 5 = .ok (.iconst 5, 1) := by decide +kernel
theorem dX3_countOf_6 : decode cX3_countOf 6 = .ok (.if_icmp .ge 43, 3) := by decide +kernel
theorem dX3_countOf_9 : decode cX3_countOf 9 = .ok (.iconst 1, 1) := by decide +kernel
theorem dX3_countOf_10 : decode cX3_countOf 10 = .ok (.istore 4, 2) := by decide +kernel
theorem dX3_countOf_12 : decode cX3_countOf 12 = .ok (.iload 4, 2) := by decide +kernel
theorem dX3_countOf_14 : decode cX3_countOf 14 = .ok (.aload_n 0, 1) := by decide +kernel
theorem dX3_countOf_15 : decode cX3_countOf 15 = .ok (.getfield 15, 3) := by decide +kernel
theorem dX3_countOf_18 : decode cX3_countOf 18 = .ok (.iload_n 3, 1) := by decide +kernel
theorem dX3_countOf_19 : decode cX3_countOf 19 = .ok (.iaload, 1) := by decide +kernel
theorem dX3_countOf_20 : decode cX3_countOf 20 = .ok (.if_icmp .gt 23, 3) := by decide +kernel
theorem dX3_countOf_23 : decode cX3_countOf 23 = .ok (.aload_n 0, 1) := by decide +kernel
theorem dX3_countOf_24 : decode cX3_countOf 24 = .ok (.iload_n 3, 1) := by decide +kernel
theorem dX3_countOf_25 : decode cX3_countOf 25 = .ok (.iload 4, 2) := by decide +kernel
theorem dX3_countOf_27 : decode cX3_countOf 27 = .ok (.invokevirtual 31, 3) := by decide +kernel
theorem dX3_countOf_30 : decode cX3_countOf 30 = .ok (.iload_n 1, 1) := by decide +kernel
theorem dX3_countOf_31 : decode cX3_countOf 31 = .ok (.if_icmp .ne 6, 3) := by decide +kernel
theorem dX3_countOf_34 : decode cX3_countOf 34 = .ok (.iinc 2 1, 3) := by decide +kernel
theorem dX3_countOf_37 : decode cX3_countOf 37 = .ok (.iinc 4 1, 3) := by decide +kernel
theorem dX3_countOf_40 : decode cX3_countOf 40 = .ok (.goto (-28), 3) := by decide +kernel
theorem dX3_countOf_43 : decode cX3_countOf 43 = .ok (.iinc 3 1, 3) := by decide +kernel
theorem dX3_countOf_46 : decode cX3_countOf 46 = .ok (.goto (-42), 3) := by decide +kernel
theorem dX3_countOf_49 : decode cX3_countOf 49 = .ok (.iload_n 2, 1) := by decide +kernel
theorem dX3_countOf_50 : decode cX3_countOf 50 = .ok (.ireturn, 1) := by decide +kernel
theorem dX3_mostOfAKind_0 : decode cX3_mostOfAKind 0 = .ok (.iconst 0, 1) := by decide +kernel
theorem dX3_mostOfAKind_1 : decode cX3_mostOfAKind 1 = .ok (.istore_n 1, 1) := by decide +kernel
theorem dX3_mostOfAKind_2 : decode cX3_mostOfAKind 2 = .ok (.iconst 0, 1) := by decide +kernel
theorem dX3_mostOfAKind_3 : decode cX3_mostOfAKind 3 = .ok (.istore_n 2, 1) := by decide +kernel
theorem dX3_mostOfAKind_4 : decode cX3_mostOfAKind 4 = .ok (.iload_n 2, 1) := by decide +kernel
theorem dX3_mostOfAKind_5 : decode cX3_mostOfAKind 5 = .ok (.bipush 13, 2) := by decide +kernel
theorem dX3_mostOfAKind_7 : decode cX3_mostOfAKind 7 = .ok (.if_icmp .gt 19, 3) := by decide +kernel
theorem dX3_mostOfAKind_10 : decode cX3_mostOfAKind 10 = .ok (.iload_n 1, 1) := by decide +kernel
theorem dX3_mostOfAKind_11 : decode cX3_mostOfAKind 11 = .ok (.aload_n 0, 1) := by decide +kernel
theorem dX3_mostOfAKind_12 : decode cX3_mostOfAKind 12 = .ok (.iload_n 2, 1) := by decide +kernel
theorem dX3_mostOfAKind_13 : decode cX3_mostOfAKind 13 = .ok (.invokevirtual 39, 3) := by decide +kernel
theorem dX3_mostOfAKind_16 : decode cX3_mostOfAKind 16 = .ok (.invokestatic 42, 3) := by decide +kernel
theorem dX3_mostOfAKind_19 : decode cX3_mostOfAKind 19 = .ok (.istore_n 1, 1) := by decide +kernel
theorem dX3_mostOfAKind_20 : decode cX3_mostOfAKind 20 = .ok (.iinc 2 1, 3) := by decide +kernel
theorem dX3_mostOfAKind_23 : decode cX3_mostOfAKind 23 = .ok (.goto (-19), 3) := by decide +kernel
theorem dX3_mostOfAKind_26 : decode cX3_mostOfAKind 26 = .ok (.iload_n 1, 1) := by decide +kernel
theorem dX3_mostOfAKind_27 : decode cX3_mostOfAKind 27 = .ok (.ireturn, 1) := by decide +kernel
theorem dX4_init_0 : decode cX4_init 0 = .ok (.aload_n 0, 1) := by decide +kernel
theorem dX4_init_1 : decode cX4_init 1 = .ok (.invokespecial 3, 3) := by decide +kernel
theorem dX4_init_4 : decode cX4_init 4 = .ok (.aload_n 0, 1) := by decide +kernel
theorem dX4_init_5 : decode cX4_init 5 = .ok (.bipush 40, 2) := by decide +kernel
theorem dX4_init_7 : decode cX4_init 7 = .ok (.newarray .int, 2) := by decide +kernel
theorem dX4_init_9 : decode cX4_init 9 = .ok (.putfield 9, 3) := by decide +kernel
theorem dX4_init_12 : decode cX4_init 12 = .ok (.aload_n 0, 1) := by decide +kernel
theorem dX4_init_13 : decode cX4_init 13 = .ok (.bipush 8, 2) := by decide +kernel
theorem dX4_init_15 : decode cX4_init 15 = .ok (.newarray .int, 2) := by decide +kernel
theorem dX4_init_17 : decode cX4_init 17 = .ok (.putfield 15, 3) := by decide +kernel
theorem dX4_init_20 : decode cX4_init 20 = .ok (.aload_n 0, 1) := by decide +kernel
theorem dX4_init_21 : decode cX4_init 21 = .ok (.iconst 0, 1) := by decide +kernel
theorem dX4_init_22 : decode cX4_init 22 = .ok (.putfield 18, 3) := by decide +kernel
theorem dX4_init_25 : decode cX4_init 25 = .ok (.aload_n 0, 1) := by decide +kernel
theorem dX4_init_26 : decode cX4_init 26 = .ok (.iconst 0, 1) := by decide +kernel
theorem dX4_init_27 : decode cX4_init 27 = .ok (.putfield 22, 3) := by decide +kernel
theorem dX4_init_30 : decode cX4_init 30 = .ok (.return_, 1) := by decide +kernel
theorem dX4_copyFrom_0 : decode cX4_copyFrom 0 = .ok (.aload_n 1, 1) := by decide +kernel
theorem dX4_copyFrom_1 : decode cX4_copyFrom 1 = .ok (.getfield 9, 3) := by decide +kernel
theorem dX4_copyFrom_4 : decode cX4_copyFrom 4 = .ok (.iconst 0, 1) := by decide +kernel
theorem dX4_copyFrom_5 : decode cX4_copyFrom 5 = .ok (.aload_n 0, 1) := by decide +kernel
theorem dX4_copyFrom_6 : decode cX4_copyFrom 6 = .ok (.getfield 9, 3) := by decide +kernel
theorem dX4_copyFrom_9 : decode cX4_copyFrom 9 = .ok (.iconst 0, 1) := by decide +kernel
theorem dX4_copyFrom_10 : decode cX4_copyFrom 10 = .ok (.bipush 40, 2) := by decide +kernel
theorem dX4_copyFrom_12 : decode cX4_copyFrom 12 = .ok (.invokestatic 25, 3) := by decide +kernel
theorem dX4_copyFrom_15 : decode cX4_copyFrom 15 = .ok (.aload_n 1, 1) := by decide +kernel
theorem dX4_copyFrom_16 : decode cX4_copyFrom 16 = .ok (.getfield 15, 3) := by decide +kernel
theorem dX4_copyFrom_19 : decode cX4_copyFrom 19 = .ok (.iconst 0, 1) := by decide +kernel
theorem dX4_copyFrom_20 : decode cX4_copyFrom 20 = .ok (.aload_n 0, 1) := by decide +kernel
theorem dX4_copyFrom_21 : decode cX4_copyFrom 21 = .ok (.getfield 15, 3) := by decide +kernel
theorem dX4_copyFrom_24 : decode cX4_copyFrom 24 = .ok (.iconst 0, 1) := by decide +kernel
theorem dX4_copyFrom_25 : decode cX4_copyFrom 25 = .ok (.bipush 8, 2) := by decide +kernel
theorem dX4_copyFrom_27 : decode cX4_copyFrom 27 = .ok (.invokestatic 25, 3) := by decide +kernel
theorem dX4_copyFrom_30 : decode cX4_copyFrom 30 = .ok (.aload_n 0, 1) := by decide +kernel
theorem dX4_copyFrom_31 : decode cX4_copyFrom 31 = .ok (.aload_n 1, 1) := by decide +kernel
theorem dX4_copyFrom_32 : decode cX4_copyFrom 32 = .ok (.getfield 18, 3) := by decide +kernel
theorem dX4_copyFrom_35 : decode cX4_copyFrom 35 = .ok (.putfield 18, 3) := by decide +kernel
theorem dX4_copyFrom_38 : decode cX4_copyFrom 38 = .ok (.aload_n 0, 1) := by decide +kernel
theorem dX4_copyFrom_39 : decode cX4_copyFrom 39 = .ok (.aload_n 1, 1) := by decide +kernel
theorem dX4_copyFrom_40 : decode cX4_copyFrom 40 = .ok (.getfield 22, 3) := by decide +kernel
theorem dX4_copyFrom_43 : decode cX4_copyFrom 43 = .ok (.putfield 22, 3) := by decide +kernel
theorem dX4_copyFrom_46 : decode cX4_copyFrom 46 = .ok (.return_, 1) := by decide +kernel
theorem dX4_size_0 : decode cX4_size 0 = .ok (.aload_n 0, 1) := by decide +kernel
theorem dX4_size_1 : decode cX4_size 1 = .ok (.getfield 18, 3) := by decide +kernel
theorem dX4_size_4 : decode cX4_size 4 = .ok (.ireturn, 1) := by decide +kernel
theorem dX4_countAll_0 : decode cX4_countAll 0 = .ok (.aload_n 0, 1) := by decide +kernel
theorem dX4_countAll_1 : decode cX4_countAll 1 = .ok (.getfield 22, 3) := by decide +kernel
theorem dX4_countAll_4 : decode cX4_countAll 4 = .ok (.ireturn, 1) := by decide +kernel
theorem dX4_wordsOf_0 : decode cX4_wordsOf 0 = .ok (.iload_n 1, 1) := by decide +kernel
theorem dX4_wordsOf_1 : decode cX4_wordsOf 1 = .ok (.bipush 8, 2) := by decide +kernel
theorem dX4_wordsOf_3 : decode cX4_wordsOf 3 = .ok (.invokestatic 31, 3) := by decide +kernel
theorem dX4_wordsOf_6 : decode cX4_wordsOf 6 = .ok (.ifCond .eq 12, 3) := by decide +kernel
theorem dX4_wordsOf_9 : decode cX4_wordsOf 9 = .ok (.aload_n 0, 1) := by decide +kernel
theorem dX4_wordsOf_10 : decode cX4_wordsOf 10 = .ok (.getfield 15, 3) := by decide +kernel
theorem dX4_wordsOf_13 : decode cX4_wordsOf 13 = .ok (.iload_n 1, 1) := by decide +kernel
theorem dX4_wordsOf_14 : decode cX4_wordsOf 14 = .ok (.iaload, 1) := by decide +kernel
theorem dX4_wordsOf_15 : decode cX4_wordsOf 15 = .ok (.goto 4, 3) := by decide +kernel
theorem dX4_wordsOf_18 : decode cX4_wordsOf 18 = .ok (.iconst 0, 1) := by decide +kernel
theorem dX4_wordsOf_19 : decode cX4_wordsOf 19 = .ok (.ireturn, 1) := by decide +kernel
theorem dX4_wordAt_0 : decode cX4_wordAt 0 = .ok (.iload_n 2, 1) := by decide +kernel
theorem dX4_wordAt_1 : decode cX4_wordAt 1 = .ok (.iconst 5, 1) := by decide +kernel
theorem dX4_wordAt_2 : decode cX4_wordAt 2 = .ok (.invokestatic 31, 3) := by decide +kernel
theorem dX4_wordAt_5 : decode cX4_wordAt 5 = .ok (.ifCond .eq 25, 3) := by decide +kernel
theorem dX4_wordAt_8 : decode cX4_wordAt 8 = .ok (.iload_n 1, 1) := by decide +kernel
theorem dX4_wordAt_9 : decode cX4_wordAt 9 = .ok (.bipush 8, 2) := by decide +kernel
theorem dX4_wordAt_11 : decode cX4_wordAt 11 = .ok (.invokestatic 31, 3) := by decide +kernel
theorem dX4_wordAt_14 : decode cX4_wordAt 14 = .ok (.ifCond .eq 16, 3) := by decide +kernel
theorem dX4_wordAt_17 : decode cX4_wordAt 17 = .ok (.aload_n 0, 1) := by decide +kernel
theorem dX4_wordAt_18 : decode cX4_wordAt 18 = .ok (.getfield 9, 3) := by decide +kernel
theorem dX4_wordAt_21 : decode cX4_wordAt 21 = .ok (.iload_n 1, 1) := by decide +kernel
theorem dX4_wordAt_22 : decode cX4_wordAt 22 = .ok (.iconst 5, 1) := by decide +kernel
theorem dX4_wordAt_23 : decode cX4_wordAt 23 = .ok (.imul, 1) := by decide +kernel
theorem dX4_wordAt_24 : decode cX4_wordAt 24 = .ok (.iload_n 2, 1) := by decide +kernel
theorem dX4_wordAt_25 : decode cX4_wordAt 25 = .ok (.iadd, 1) := by decide +kernel
theorem dX4_wordAt_26 : decode cX4_wordAt 26 = .ok (.iaload, 1) := by decide +kernel
theorem dX4_wordAt_27 : decode cX4_wordAt 27 = .ok (.goto 5, 3) := by decide +kernel
theorem dX4_wordAt_30 : decode cX4_wordAt 30 = .ok (.bipush (-6), 2) := by decide +kernel
theorem dX4_wordAt_32 : decode cX4_wordAt 32 = .ok (.ireturn, 1) := by decide +kernel
theorem dX4_add_0 : decode cX4_add 0 = .ok (.aload_n 0, 1) := by decide +kernel
theorem dX4_add_1 : decode cX4_add 1 = .ok (.getfield 18, 3) := by decide +kernel
theorem dX4_add_4 : decode cX4_add 4 = .ok (.bipush 8, 2) := by decide +kernel
theorem dX4_add_6 : decode cX4_add 6 = .ok (.if_icmp .lt 39, 3) := by decide +kernel
theorem dX4_add_9 : decode cX4_add 9 = .ok (.aload_n 0, 1) := by decide +kernel
theorem dX4_add_10 : decode cX4_add 10 = .ok (.getfield 9, 3) := by decide +kernel
theorem dX4_add_13 : decode cX4_add 13 = .ok (.iconst 5, 1) := by decide +kernel
theorem dX4_add_14 : decode cX4_add 14 = .ok (.aload_n 0, 1) := by decide +kernel
theorem dX4_add_15 : decode cX4_add 15 = .ok (.getfield 9, 3) := by decide +kernel
theorem dX4_add_18 : decode cX4_add 18 = .ok (.iconst 0, 1) := by decide +kernel
theorem dX4_add_19 : decode cX4_add 19 = .ok (.bipush 35, 2) := by decide +kernel
theorem dX4_add_21 : decode cX4_add 21 = .ok (.invokestatic 25, 3) := by decide +kernel
theorem dX4_add_24 : decode cX4_add 24 = .ok (.aload_n 0, 1) := by decide +kernel
theorem dX4_add_25 : decode cX4_add 25 = .ok (.getfield 15, 3) := by decide +kernel
theorem dX4_add_28 : decode cX4_add 28 = .ok (.iconst 1, 1) := by decide +kernel
theorem dX4_add_29 : decode cX4_add 29 = .ok (.aload_n 0, 1) := by decide +kernel
theorem dX4_add_30 : decode cX4_add 30 = .ok (.getfield 15, 3) := by decide +kernel
theorem dX4_add_33 : decode cX4_add 33 = .ok (.iconst 0, 1) := by decide +kernel
theorem dX4_add_34 : decode cX4_add 34 = .ok (.bipush 7, 2) := by decide +kernel
theorem dX4_add_36 : decode cX4_add 36 = .ok (.invokestatic 25, 3) := by decide +kernel
theorem dX4_add_39 : decode cX4_add 39 = .ok (.aload_n 0, 1) := by decide +kernel
theorem dX4_add_40 : decode cX4_add 40 = .ok (.bipush 7, 2) := by decide +kernel
theorem dX4_add_42 : decode cX4_add 42 = .ok (.putfield 18, 3) := by decide +kernel
theorem dX4_add_45 : decode cX4_add 45 = .ok (.aload_n 0, 1) := by decide +kernel
theorem dX4_add_46 : decode cX4_add 46 = .ok (.getfield 18, 3) := by decide +kernel
theorem dX4_add_49 : decode cX4_add 49 = .ok (.bipush 8, 2) := by decide +kernel
theorem dX4_add_51 : decode cX4_add 51 = .ok (.invokestatic 31, 3) := by decide +kernel
theorem dX4_add_54 : decode cX4_add 54 = .ok (.ifCond .eq 68, 3) := by decide +kernel
theorem dX4_add_57 : decode cX4_add 57 = .ok (.iconst 0, 1) := by decide +kernel
theorem dX4_add_58 : decode cX4_add 58 = .ok (.istore_n 3, 1) := by decide +kernel
theorem dX4_add_59 : decode cX4_add 59 = .ok (.iload_n 3, 1) := by decide +kernel
theorem dX4_add_60 : decode cX4_add 60 = .ok (.iconst 5, 1) := by decide +kernel
theorem dX4_add_61 : decode cX4_add 61 = .ok (.if_icmp .ge 31, 3) := by decide +kernel
theorem dX4_add_64 : decode cX4_add 64 = .ok (.iload_n 3, 1) := by decide +kernel
theorem dX4_add_65 : decode cX4_add 65 = .ok (.aload_n 1, 1) := by decide +kernel
theorem dX4_add_66 : decode cX4_add 66 = .ok (.arraylength, 1) := by decide +kernel
theorem dX4_add_67 : decode cX4_add 67 = .ok (.if_icmp .ge 25, 3) := by decide +kernel
theorem dX4_add_70 : decode cX4_add 70 = .ok (.aload_n 0, 1) := by decide +kernel
theorem dX4_add_71 : decode cX4_add 71 = .ok (.getfield 9, 3) := by decide +kernel
theorem dX4_add_74 : decode cX4_add 74 = .ok (.aload_n 0, 1) := by decide +kernel
theorem dX4_add_75 : decode cX4_add 75 = .ok (.getfield 18, 3) := by decide +kernel
theorem dX4_add_78 : decode cX4_add 78 = .ok (.iconst 5, 1) := by decide +kernel
theorem dX4_add_79 : decode cX4_add 79 = .ok (.imul, 1) := by decide +kernel
theorem dX4_add_80 : decode cX4_add 80 = .ok (.iload_n 3, 1) := by decide +kernel
theorem dX4_add_81 : decode cX4_add 81 = .ok (.iadd, 1) := by decide +kernel
theorem dX4_add_82 : decode cX4_add 82 = .ok (.aload_n 1, 1) := by decide +kernel
theorem dX4_add_83 : decode cX4_add 83 = .ok (.iload_n 3, 1) := by decide +kernel
theorem dX4_add_84 : decode cX4_add 84 = .ok (.iaload, 1) := by decide +kernel
theorem dX4_add_85 : decode cX4_add 85 = .ok (.iastore, 1) := by decide +kernel
theorem dX4_add_86 : decode cX4_add 86 = .ok (.iinc 3 1, 3) := by decide +kernel
theorem dX4_add_89 : decode cX4_add 89 = .ok (.goto (-30), 3) := by decide +kernel
theorem dX4_add_92 : decode cX4_add 92 = .ok (.aload_n 0, 1) := by decide +kernel
theorem dX4_add_93 : decode cX4_add 93 = .ok (.getfield 15, 3) := by decide +kernel
theorem dX4_add_96 : decode cX4_add 96 = .ok (.aload_n 0, 1) := by decide +kernel
theorem dX4_add_97 : decode cX4_add 97 = .ok (.getfield 18, 3) := by decide +kernel
theorem dX4_add_100 : decode cX4_add 100 = .ok (.iload_n 2, 1) := by decide +kernel
theorem dX4_add_101 : decode cX4_add 101 = .ok (.iastore, 1) := by decide +kernel
theorem dX4_add_102 : decode cX4_add 102 = .ok (.aload_n 0, 1) := by decide +kernel
theorem dX4_add_103 : decode cX4_add 103 = .ok (.dup, 1) := by decide +kernel
theorem dX4_add_104 : decode cX4_add 104 = .ok (.getfield 18, 3) := by decide +kernel
theorem dX4_add_107 : decode cX4_add 107 = .ok (.iconst 1, 1) := by decide +kernel
theorem dX4_add_108 : decode cX4_add 108 = .ok (.iadd, 1) := by decide +kernel
theorem dX4_add_109 : decode cX4_add 109 = .ok (.putfield 18, 3) := by decide +kernel
theorem dX4_add_112 : decode cX4_add 112 = .ok (.aload_n 0, 1) := by decide +kernel
theorem dX4_add_113 : decode cX4_add 113 = .ok (.dup, 1) := by decide +kernel
theorem dX4_add_114 : decode cX4_add 114 = .ok (.getfield 22, 3) := by decide +kernel
theorem dX4_add_117 : decode cX4_add 117 = .ok (.iconst 1, 1) := by decide +kernel
theorem dX4_add_118 : decode cX4_add 118 = .ok (.iadd, 1) := by decide +kernel
theorem dX4_add_119 : decode cX4_add 119 = .ok (.putfield 22, 3) := by decide +kernel
theorem dX4_add_122 : decode cX4_add 122 = .ok (.return_, 1) := by decide +kernel
theorem dX5_init_0 : decode cX5_init 0 = .ok (.aload_n 0, 1) := by decide +kernel
theorem dX5_init_1 : decode cX5_init 1 = .ok (.invokespecial 3, 3) := by decide +kernel
theorem dX5_init_4 : decode cX5_init 4 = .ok (.aload_n 0, 1) := by decide +kernel
theorem dX5_init_5 : decode cX5_init 5 = .ok (.iconst 5, 1) := by decide +kernel
theorem dX5_init_6 : decode cX5_init 6 = .ok (.newarray .int, 2) := by decide +kernel
theorem dX5_init_8 : decode cX5_init 8 = .ok (.putfield 9, 3) := by decide +kernel
theorem dX5_init_11 : decode cX5_init 11 = .ok (.aload_n 0, 1) := by decide +kernel
theorem dX5_init_12 : decode cX5_init 12 = .ok (.iconst 5, 1) := by decide +kernel
theorem dX5_init_13 : decode cX5_init 13 = .ok (.newarray .int, 2) := by decide +kernel
theorem dX5_init_15 : decode cX5_init 15 = .ok (.putfield 15, 3) := by decide +kernel
theorem dX5_init_18 : decode cX5_init 18 = .ok (.aload_n 0, 1) := by decide +kernel
theorem dX5_init_19 : decode cX5_init 19 = .ok (.iconst 0, 1) := by decide +kernel
theorem dX5_init_20 : decode cX5_init 20 = .ok (.putfield 18, 3) := by decide +kernel
theorem dX5_init_23 : decode cX5_init 23 = .ok (.aload_n 0, 1) := by decide +kernel
theorem dX5_init_24 : decode cX5_init 24 = .ok (.iload_n 1, 1) := by decide +kernel
theorem dX5_init_25 : decode cX5_init 25 = .ok (.putfield 22, 3) := by decide +kernel
theorem dX5_init_28 : decode cX5_init 28 = .ok (.return_, 1) := by decide +kernel
theorem dX5_look_0 : decode cX5_look 0 = .ok (.aload_n 0, 1) := by decide +kernel
theorem dX5_look_1 : decode cX5_look 1 = .ok (.getfield 22, 3) := by decide +kernel
theorem dX5_look_4 : decode cX5_look 4 = .ok (.iload_n 3, 1) := by decide +kernel
theorem dX5_look_5 : decode cX5_look 5 = .ok (.invokestatic 25, 3) := by decide +kernel
theorem dX5_look_8 : decode cX5_look 8 = .ok (.istore 4, 2) := by decide +kernel
theorem dX5_look_10 : decode cX5_look 10 = .ok (.iconst 0, 1) := by decide +kernel
theorem dX5_look_11 : decode cX5_look 11 = .ok (.istore 5, 2) := by decide +kernel
theorem dX5_look_13 : decode cX5_look 13 = .ok (.iload 5, 2) := by decide +kernel
theorem dX5_look_15 : decode cX5_look 15 = .ok (.iconst 5, 1) := by decide +kernel
theorem dX5_look_16 : decode cX5_look 16 = .ok (.if_icmp .ge 25, 3) := by decide +kernel
theorem dX5_look_19 : decode cX5_look 19 = .ok (.aload_n 0, 1) := by decide +kernel
theorem dX5_look_20 : decode cX5_look 20 = .ok (.getfield 9, 3) := by decide +kernel
theorem dX5_look_23 : decode cX5_look 23 = .ok (.iload 5, 2) := by decide +kernel
theorem dX5_look_25 : decode cX5_look 25 = .ok (.aload_n 1, 1) := by decide +kernel
theorem dX5_look_26 : decode cX5_look 26 = .ok (.iload 5, 2) := by decide +kernel
theorem dX5_look_28 : decode cX5_look 28 = .ok (.iload 4, 2) := by decide +kernel
theorem dX5_look_30 : decode cX5_look 30 = .ok (.iload_n 2, 1) := by decide +kernel
theorem dX5_look_31 : decode cX5_look 31 = .ok (.invokevirtual 29, 3) := by decide +kernel
theorem dX5_look_34 : decode cX5_look 34 = .ok (.iastore, 1) := by decide +kernel
theorem dX5_look_35 : decode cX5_look 35 = .ok (.iinc 5 1, 3) := by decide +kernel
theorem dX5_look_38 : decode cX5_look 38 = .ok (.goto (-25), 3) := by decide +kernel
theorem dX5_look_41 : decode cX5_look 41 = .ok (.aload_n 0, 1) := by decide +kernel
theorem dX5_look_42 : decode cX5_look 42 = .ok (.iconst 0, 1) := by decide +kernel
theorem dX5_look_43 : decode cX5_look 43 = .ok (.iconst 0, 1) := by decide +kernel
theorem dX5_look_44 : decode cX5_look 44 = .ok (.invokevirtual 35, 3) := by decide +kernel
theorem dX5_look_47 : decode cX5_look 47 = .ok (.return_, 1) := by decide +kernel
theorem dX5_arrange_0 : decode cX5_arrange 0 = .ok (.aload_n 0, 1) := by decide +kernel
theorem dX5_arrange_1 : decode cX5_arrange 1 = .ok (.iconst 0, 1) := by decide +kernel
theorem dX5_arrange_2 : decode cX5_arrange 2 = .ok (.putfield 18, 3) := by decide +kernel
theorem dX5_arrange_5 : decode cX5_arrange 5 = .ok (.iconst 0, 1) := by decide +kernel
theorem dX5_arrange_6 : decode cX5_arrange 6 = .ok (.istore_n 3, 1) := by decide +kernel
theorem dX5_arrange_7 : decode cX5_arrange 7 = .ok (.iload_n 3, 1) := by decide +kernel
theorem dX5_arrange_8 : decode cX5_arrange 8 = .ok (.iconst 5, 1) := by decide +kernel
theorem dX5_arrange_9 : decode cX5_arrange 9 = .ok (.if_icmp .ge 104, 3) := by decide +kernel
theorem dX5_arrange_12 : decode cX5_arrange 12 = .ok (.aload_n 0, 1) := by decide +kernel
theorem dX5_arrange_13 : decode cX5_arrange 13 = .ok (.getfield 22, 3) := by decide +kernel
theorem dX5_arrange_16 : decode cX5_arrange 16 = .ok (.ifCond .ne 7, 3) := by decide +kernel
theorem dX5_arrange_19 : decode cX5_arrange 19 = .ok (.iload_n 3, 1) := by decide +kernel
theorem dX5_arrange_20 : decode cX5_arrange 20 = .ok (.goto 6, 3) := by decide +kernel
theorem dX5_arrange_23 : decode cX5_arrange 23 = .ok (.iconst 4, 1) := by decide +kernel
theorem dX5_arrange_24 : decode cX5_arrange 24 = .ok (.iload_n 3, 1) := by decide +kernel
theorem dX5_arrange_25 : decode cX5_arrange 25 = .ok (.isub, 1) := by decide +kernel
theorem dX5_arrange_26 : decode cX5_arrange 26 = .ok (.istore 4, 2) := by decide +kernel
theorem dX5_arrange_28 : decode cX5_arrange 28 = .ok (.iload 4, 2) := by decide +kernel
theorem dX5_arrange_30 : decode cX5_arrange 30 = .ok (.iload_n 1, 1) := by decide +kernel
theorem dX5_arrange_31 : decode cX5_arrange 31 = .ok (.if_icmp .ne 9, 3) := by decide +kernel
theorem dX5_arrange_34 : decode cX5_arrange 34 = .ok (.iload_n 2, 1) := by decide +kernel
theorem dX5_arrange_35 : decode cX5_arrange 35 = .ok (.istore 4, 2) := by decide +kernel
theorem dX5_arrange_37 : decode cX5_arrange 37 = .ok (.goto 12, 3) := by decide +kernel
theorem dX5_arrange_40 : decode cX5_arrange 40 = .ok (.iload 4, 2) := by decide +kernel
theorem dX5_arrange_42 : decode cX5_arrange 42 = .ok (.iload_n 2, 1) := by decide +kernel
theorem dX5_arrange_43 : decode cX5_arrange 43 = .ok (.if_icmp .ne 6, 3) := by decide +kernel
theorem dX5_arrange_46 : decode cX5_arrange 46 = .ok (.iload_n 1, 1) := by decide +kernel
theorem dX5_arrange_47 : decode cX5_arrange 47 = .ok (.istore 4, 2) := by decide +kernel
theorem dX5_arrange_49 : decode cX5_arrange 49 = .ok (.iload 4, 2) := by decide +kernel
theorem dX5_arrange_51 : decode cX5_arrange 51 = .ok (.iconst 5, 1) := by decide +kernel
theorem dX5_arrange_52 : decode cX5_arrange 52 = .ok (.invokestatic 39, 3) := by decide +kernel
theorem dX5_arrange_55 : decode cX5_arrange 55 = .ok (.ifCond .eq 52, 3) := by decide +kernel
theorem dX5_arrange_58 : decode cX5_arrange 58 = .ok (.aload_n 0, 1) := by decide +kernel
theorem dX5_arrange_59 : decode cX5_arrange 59 = .ok (.getfield 18, 3) := by decide +kernel
theorem dX5_arrange_62 : decode cX5_arrange 62 = .ok (.iconst 5, 1) := by decide +kernel
theorem dX5_arrange_63 : decode cX5_arrange 63 = .ok (.invokestatic 39, 3) := by decide +kernel
theorem dX5_arrange_66 : decode cX5_arrange 66 = .ok (.ifCond .eq 41, 3) := by decide +kernel
theorem dX5_arrange_69 : decode cX5_arrange 69 = .ok (.aload_n 0, 1) := by decide +kernel
theorem dX5_arrange_70 : decode cX5_arrange 70 = .ok (.getfield 9, 3) := by decide +kernel
theorem dX5_arrange_73 : decode cX5_arrange 73 = .ok (.iload 4, 2) := by decide +kernel
theorem dX5_arrange_75 : decode cX5_arrange 75 = .ok (.iaload, 1) := by decide +kernel
theorem dX5_arrange_76 : decode cX5_arrange 76 = .ok (.bipush (-7), 2) := by decide +kernel
theorem dX5_arrange_78 : decode cX5_arrange 78 = .ok (.if_icmp .eq 29, 3) := by decide +kernel
theorem dX5_arrange_81 : decode cX5_arrange 81 = .ok (.aload_n 0, 1) := by decide +kernel
theorem dX5_arrange_82 : decode cX5_arrange 82 = .ok (.getfield 15, 3) := by decide +kernel
theorem dX5_arrange_85 : decode cX5_arrange 85 = .ok (.aload_n 0, 1) := by decide +kernel
theorem dX5_arrange_86 : decode cX5_arrange 86 = .ok (.getfield 18, 3) := by decide +kernel
theorem dX5_arrange_89 : decode cX5_arrange 89 = .ok (.aload_n 0, 1) := by decide +kernel
theorem dX5_arrange_90 : decode cX5_arrange 90 = .ok (.getfield 9, 3) := by decide +kernel
theorem dX5_arrange_93 : decode cX5_arrange 93 = .ok (.iload 4, 2) := by decide +kernel
theorem dX5_arrange_95 : decode cX5_arrange 95 = .ok (.iaload, 1) := by decide +kernel
theorem dX5_arrange_96 : decode cX5_arrange 96 = .ok (.iastore, 1) := by decide +kernel
theorem dX5_arrange_97 : decode cX5_arrange 97 = .ok (.aload_n 0, 1) := by decide +kernel
theorem dX5_arrange_98 : decode cX5_arrange 98 = .ok (.dup, 1) := by decide +kernel
theorem dX5_arrange_99 : decode cX5_arrange 99 = .ok (.getfield 18, 3) := by decide +kernel
theorem dX5_arrange_102 : decode cX5_arrange 102 = .ok (.iconst 1, 1) := by decide +kernel
theorem dX5_arrange_103 : decode cX5_arrange 103 = .ok (.iadd, 1) := by decide +kernel
theorem dX5_arrange_104 : decode cX5_arrange 104 = .ok (.putfield 18, 3) := by decide +kernel
theorem dX5_arrange_107 : decode cX5_arrange 107 = .ok (.iinc 3 1, 3) := by decide +kernel
theorem dX5_arrange_110 : decode cX5_arrange 110 = .ok (.goto (-103), 3) := by decide +kernel
theorem dX5_arrange_113 : decode cX5_arrange 113 = .ok (.return_, 1) := by decide +kernel
theorem dX5_size_0 : decode cX5_size 0 = .ok (.aload_n 0, 1) := by decide +kernel
theorem dX5_size_1 : decode cX5_size 1 = .ok (.getfield 18, 3) := by decide +kernel
theorem dX5_size_4 : decode cX5_size 4 = .ok (.ireturn, 1) := by decide +kernel
theorem dX5_wordAt_0 : decode cX5_wordAt 0 = .ok (.iload_n 1, 1) := by decide +kernel
theorem dX5_wordAt_1 : decode cX5_wordAt 1 = .ok (.iconst 5, 1) := by decide +kernel
theorem dX5_wordAt_2 : decode cX5_wordAt 2 = .ok (.invokestatic 39, 3) := by decide +kernel
theorem dX5_wordAt_5 : decode cX5_wordAt 5 = .ok (.ifCond .eq 12, 3) := by decide +kernel
theorem dX5_wordAt_8 : decode cX5_wordAt 8 = .ok (.aload_n 0, 1) := by decide +kernel
theorem dX5_wordAt_9 : decode cX5_wordAt 9 = .ok (.getfield 15, 3) := by decide +kernel
theorem dX5_wordAt_12 : decode cX5_wordAt 12 = .ok (.iload_n 1, 1) := by decide +kernel
theorem dX5_wordAt_13 : decode cX5_wordAt 13 = .ok (.iaload, 1) := by decide +kernel
theorem dX5_wordAt_14 : decode cX5_wordAt 14 = .ok (.goto 5, 3) := by decide +kernel
theorem dX5_wordAt_17 : decode cX5_wordAt 17 = .ok (.bipush (-6), 2) := by decide +kernel
theorem dX5_wordAt_19 : decode cX5_wordAt 19 = .ok (.ireturn, 1) := by decide +kernel
theorem dX5_countKnown_0 : decode cX5_countKnown 0 = .ok (.iconst 0, 1) := by decide +kernel
theorem dX5_countKnown_1 : decode cX5_countKnown 1 = .ok (.istore_n 1, 1) := by decide +kernel
theorem dX5_countKnown_2 : decode cX5_countKnown 2 = .ok (.iconst 0, 1) := by decide +kernel
theorem dX5_countKnown_3 : decode cX5_countKnown 3 = .ok (.istore_n 2, 1) := by decide +kernel
theorem dX5_countKnown_4 : decode cX5_countKnown 4 = .ok (.iload_n 2, 1) := by decide +kernel
theorem dX5_countKnown_5 : decode cX5_countKnown 5 = .ok (.aload_n 0, 1) := by decide +kernel
theorem dX5_countKnown_6 : decode cX5_countKnown 6 = .ok (.getfield 18, 3) := by decide +kernel
theorem dX5_countKnown_9 : decode cX5_countKnown 9 = .ok (.if_icmp .ge 28, 3) := by decide +kernel
theorem dX5_countKnown_12 : decode cX5_countKnown 12 = .ok (.iload_n 2, 1) := by decide +kernel
theorem dX5_countKnown_13 : decode cX5_countKnown 13 = .ok (.iconst 5, 1) := by decide +kernel
theorem dX5_countKnown_14 : decode cX5_countKnown 14 = .ok (.if_icmp .ge 23, 3) := by decide +kernel
theorem dX5_countKnown_17 : decode cX5_countKnown 17 = .ok (.aload_n 0, 1) := by decide +kernel
theorem dX5_countKnown_18 : decode cX5_countKnown 18 = .ok (.getfield 15, 3) := by decide +kernel
theorem dX5_countKnown_21 : decode cX5_countKnown 21 = .ok (.iload_n 2, 1) := by decide +kernel
theorem dX5_countKnown_22 : decode cX5_countKnown 22 = .ok (.iaload, 1) := by decide +kernel
theorem dX5_countKnown_23 : decode cX5_countKnown 23 = .ok (.bipush (-6), 2) := by decide +kernel
theorem dX5_countKnown_25 : decode cX5_countKnown 25 = .ok (.if_icmp .eq 6, 3) := by decide +kernel
theorem dX5_countKnown_28 : decode cX5_countKnown 28 = .ok (.iinc 1 1, 3) := by decide +kernel
theorem dX5_countKnown_31 : decode cX5_countKnown 31 = .ok (.iinc 2 1, 3) := by decide +kernel
theorem dX5_countKnown_34 : decode cX5_countKnown 34 = .ok (.goto (-30), 3) := by decide +kernel
theorem dX5_countKnown_37 : decode cX5_countKnown 37 = .ok (.iload_n 1, 1) := by decide +kernel
theorem dX5_countKnown_38 : decode cX5_countKnown 38 = .ok (.ireturn, 1) := by decide +kernel
theorem dX5_knowsAll_0 : decode cX5_knowsAll 0 = .ok (.aload_n 0, 1) := by decide +kernel
theorem dX5_knowsAll_1 : decode cX5_knowsAll 1 = .ok (.getfield 18, 3) := by decide +kernel
theorem dX5_knowsAll_4 : decode cX5_knowsAll 4 = .ok (.ifCond .le 18, 3) := by decide +kernel
theorem dX5_knowsAll_7 : decode cX5_knowsAll 7 = .ok (.aload_n 0, 1) := by decide +kernel
theorem dX5_knowsAll_8 : decode cX5_knowsAll 8 = .ok (.invokevirtual 42, 3) := by decide +kernel
theorem dX5_knowsAll_11 : decode cX5_knowsAll 11 = .ok (.aload_n 0, 1) := by decide +kernel
theorem dX5_knowsAll_12 : decode cX5_knowsAll 12 = .ok (.getfield 18, 3) := by decide +kernel
theorem dX5_knowsAll_15 : decode cX5_knowsAll 15 = .ok (.if_icmp .ne 7, 3) := by decide +kernel
theorem dX5_knowsAll_18 : decode cX5_knowsAll 18 = .ok (.iconst 1, 1) := by decide +kernel
theorem dX5_knowsAll_19 : decode cX5_knowsAll 19 = .ok (.goto 4, 3) := by decide +kernel
theorem dX5_knowsAll_22 : decode cX5_knowsAll 22 = .ok (.iconst 0, 1) := by decide +kernel
theorem dX5_knowsAll_23 : decode cX5_knowsAll 23 = .ok (.ireturn, 1) := by decide +kernel
theorem dX5_agreesWith_0 : decode cX5_agreesWith 0 = .ok (.aload_n 0, 1) := by decide +kernel
theorem dX5_agreesWith_1 : decode cX5_agreesWith 1 = .ok (.invokevirtual 46, 3) := by decide +kernel
theorem dX5_agreesWith_4 : decode cX5_agreesWith 4 = .ok (.ifCond .eq 14, 3) := by decide +kernel
theorem dX5_agreesWith_7 : decode cX5_agreesWith 7 = .ok (.aload_n 0, 1) := by decide +kernel
theorem dX5_agreesWith_8 : decode cX5_agreesWith 8 = .ok (.getfield 18, 3) := by decide +kernel
theorem dX5_agreesWith_11 : decode cX5_agreesWith 11 = .ok (.aload_n 1, 1) := by decide +kernel
theorem dX5_agreesWith_12 : decode cX5_agreesWith 12 = .ok (.getfield 18, 3) := by decide +kernel
theorem dX5_agreesWith_15 : decode cX5_agreesWith 15 = .ok (.if_icmp .eq 5, 3) := by decide +kernel
theorem dX5_agreesWith_18 : decode cX5_agreesWith 18 = .ok (.iconst 0, 1) := by decide +kernel
theorem dX5_agreesWith_19 : decode cX5_agreesWith 19 = .ok (.ireturn, 1) := by decide +kernel
theorem dX5_agreesWith_20 : decode cX5_agreesWith 20 = .ok (.iconst 0, 1) := by decide +kernel
theorem dX5_agreesWith_21 : decode cX5_agreesWith 21 = .ok (.istore_n 2, 1) := by decide +kernel
theorem dX5_agreesWith_22 : decode cX5_agreesWith 22 = .ok (.iload_n 2, 1) := by decide +kernel
theorem dX5_agreesWith_23 : decode cX5_agreesWith 23 = .ok (.aload_n 0, 1) := by decide +kernel
theorem dX5_agreesWith_24 : decode cX5_agreesWith 24 = .ok (.getfield 18, 3) := by decide +kernel
theorem dX5_agreesWith_27 : decode cX5_agreesWith 27 = .ok (.if_icmp .ge 31, 3) := by decide +kernel
theorem dX5_agreesWith_30 : decode cX5_agreesWith 30 = .ok (.iload_n 2, 1) := by decide +kernel
theorem dX5_agreesWith_31 : decode cX5_agreesWith 31 = .ok (.iconst 5, 1) := by decide +kernel
theorem dX5_agreesWith_32 : decode cX5_agreesWith 32 = .ok (.if_icmp .ge 26, 3) := by decide +kernel
theorem dX5_agreesWith_35 : decode cX5_agreesWith 35 = .ok (.aload_n 0, 1) := by decide +kernel
theorem dX5_agreesWith_36 : decode cX5_agreesWith 36 = .ok (.getfield 15, 3) := by decide +kernel
theorem dX5_agreesWith_39 : decode cX5_agreesWith 39 = .ok (.iload_n 2, 1) := by decide +kernel
theorem dX5_agreesWith_40 : decode cX5_agreesWith 40 = .ok (.iaload, 1) := by decide +kernel
theorem dX5_agreesWith_41 : decode cX5_agreesWith 41 = .ok (.aload_n 1, 1) := by decide +kernel
theorem dX5_agreesWith_42 : decode cX5_agreesWith 42 = .ok (.getfield 15, 3) := by decide +kernel
theorem dX5_agreesWith_45 : decode cX5_agreesWith 45 = .ok (.iload_n 2, 1) := by decide +kernel
theorem dX5_agreesWith_46 : decode cX5_agreesWith 46 = .ok (.iaload, 1) := by decide +kernel
theorem dX5_agreesWith_47 : decode cX5_agreesWith 47 = .ok (.if_icmp .eq 5, 3) := by decide +kernel
theorem dX5_agreesWith_50 : decode cX5_agreesWith 50 = .ok (.iconst 0, 1) := by decide +kernel
theorem dX5_agreesWith_51 : decode cX5_agreesWith 51 = .ok (.ireturn, 1) := by decide +kernel
theorem dX5_agreesWith_52 : decode cX5_agreesWith 52 = .ok (.iinc 2 1, 3) := by decide +kernel
theorem dX5_agreesWith_55 : decode cX5_agreesWith 55 = .ok (.goto (-33), 3) := by decide +kernel
theorem dX5_agreesWith_58 : decode cX5_agreesWith 58 = .ok (.iconst 1, 1) := by decide +kernel
theorem dX5_agreesWith_59 : decode cX5_agreesWith 59 = .ok (.ireturn, 1) := by decide +kernel
theorem dX6_init_0 : decode cX6_init 0 = .ok (.aload_n 0, 1) := by decide +kernel
theorem dX6_init_1 : decode cX6_init 1 = .ok (.invokespecial 3, 3) := by decide +kernel
theorem dX6_init_4 : decode cX6_init 4 = .ok (.aload_n 0, 1) := by decide +kernel
theorem dX6_init_5 : decode cX6_init 5 = .ok (.new 9, 3) := by decide +kernel
theorem dX6_init_8 : decode cX6_init 8 = .ok (.dup, 1) := by decide +kernel
theorem dX6_init_9 : decode cX6_init 9 = .ok (.invokespecial 11, 3) := by decide +kernel
theorem dX6_init_12 : decode cX6_init 12 = .ok (.putfield 12, 3) := by decide +kernel
theorem dX6_init_15 : decode cX6_init 15 = .ok (.aload_n 0, 1) := by decide +kernel
theorem dX6_init_16 : decode cX6_init 16 = .ok (.new 18, 3) := by decide +kernel
theorem dX6_init_19 : decode cX6_init 19 = .ok (.dup, 1) := by decide +kernel
theorem dX6_init_20 : decode cX6_init 20 = .ok (.invokespecial 20, 3) := by decide +kernel
theorem dX6_init_23 : decode cX6_init 23 = .ok (.putfield 21, 3) := by decide +kernel
theorem dX6_init_26 : decode cX6_init 26 = .ok (.aload_n 0, 1) := by decide +kernel
theorem dX6_init_27 : decode cX6_init 27 = .ok (.new 25, 3) := by decide +kernel
theorem dX6_init_30 : decode cX6_init 30 = .ok (.dup, 1) := by decide +kernel
theorem dX6_init_31 : decode cX6_init 31 = .ok (.invokespecial 27, 3) := by decide +kernel
theorem dX6_init_34 : decode cX6_init 34 = .ok (.putfield 28, 3) := by decide +kernel
theorem dX6_init_37 : decode cX6_init 37 = .ok (.aload_n 0, 1) := by decide +kernel
theorem dX6_init_38 : decode cX6_init 38 = .ok (.new 32, 3) := by decide +kernel
theorem dX6_init_41 : decode cX6_init 41 = .ok (.dup, 1) := by decide +kernel
theorem dX6_init_42 : decode cX6_init 42 = .ok (.invokespecial 34, 3) := by decide +kernel
theorem dX6_init_45 : decode cX6_init 45 = .ok (.putfield 35, 3) := by decide +kernel
theorem dX6_init_48 : decode cX6_init 48 = .ok (.aload_n 0, 1) := by decide +kernel
theorem dX6_init_49 : decode cX6_init 49 = .ok (.iconst 1, 1) := by decide +kernel
theorem dX6_init_50 : decode cX6_init 50 = .ok (.putfield 39, 3) := by decide +kernel
theorem dX6_init_53 : decode cX6_init 53 = .ok (.aload_n 0, 1) := by decide +kernel
theorem dX6_init_54 : decode cX6_init 54 = .ok (.iconst 5, 1) := by decide +kernel
theorem dX6_init_55 : decode cX6_init 55 = .ok (.putfield 43, 3) := by decide +kernel
theorem dX6_init_58 : decode cX6_init 58 = .ok (.aload_n 0, 1) := by decide +kernel
theorem dX6_init_59 : decode cX6_init 59 = .ok (.iconst 0, 1) := by decide +kernel
theorem dX6_init_60 : decode cX6_init 60 = .ok (.putfield 46, 3) := by decide +kernel
theorem dX6_init_63 : decode cX6_init 63 = .ok (.aload_n 0, 1) := by decide +kernel
theorem dX6_init_64 : decode cX6_init 64 = .ok (.iconst 0, 1) := by decide +kernel
theorem dX6_init_65 : decode cX6_init 65 = .ok (.putfield 49, 3) := by decide +kernel
theorem dX6_init_68 : decode cX6_init 68 = .ok (.aload_n 0, 1) := by decide +kernel
theorem dX6_init_69 : decode cX6_init 69 = .ok (.iconst 0, 1) := by decide +kernel
theorem dX6_init_70 : decode cX6_init 70 = .ok (.putfield 52, 3) := by decide +kernel
theorem dX6_init_73 : decode cX6_init 73 = .ok (.return_, 1) := by decide +kernel
theorem dX6_copyFrom_0 : decode cX6_copyFrom 0 = .ok (.aload_n 0, 1) := by decide +kernel
theorem dX6_copyFrom_1 : decode cX6_copyFrom 1 = .ok (.getfield 12, 3) := by decide +kernel
theorem dX6_copyFrom_4 : decode cX6_copyFrom 4 = .ok (.aload_n 1, 1) := by decide +kernel
theorem dX6_copyFrom_5 : decode cX6_copyFrom 5 = .ok (.getfield 12, 3) := by decide +kernel
theorem dX6_copyFrom_8 : decode cX6_copyFrom 8 = .ok (.invokevirtual 55, 3) := by decide +kernel
theorem dX6_copyFrom_11 : decode cX6_copyFrom 11 = .ok (.aload_n 0, 1) := by decide +kernel
theorem dX6_copyFrom_12 : decode cX6_copyFrom 12 = .ok (.getfield 21, 3) := by decide +kernel
theorem dX6_copyFrom_15 : decode cX6_copyFrom 15 = .ok (.aload_n 1, 1) := by decide +kernel
theorem dX6_copyFrom_16 : decode cX6_copyFrom 16 = .ok (.getfield 21, 3) := by decide +kernel
theorem dX6_copyFrom_19 : decode cX6_copyFrom 19 = .ok (.invokevirtual 59, 3) := by decide +kernel
theorem dX6_copyFrom_22 : decode cX6_copyFrom 22 = .ok (.aload_n 0, 1) := by decide +kernel
theorem dX6_copyFrom_23 : decode cX6_copyFrom 23 = .ok (.getfield 28, 3) := by decide +kernel
theorem dX6_copyFrom_26 : decode cX6_copyFrom 26 = .ok (.aload_n 1, 1) := by decide +kernel
theorem dX6_copyFrom_27 : decode cX6_copyFrom 27 = .ok (.getfield 28, 3) := by decide +kernel
theorem dX6_copyFrom_30 : decode cX6_copyFrom 30 = .ok (.invokevirtual 62, 3) := by decide +kernel
theorem dX6_copyFrom_33 : decode cX6_copyFrom 33 = .ok (.aload_n 0, 1) := by decide +kernel
theorem dX6_copyFrom_34 : decode cX6_copyFrom 34 = .ok (.getfield 35, 3) := by decide +kernel
theorem dX6_copyFrom_37 : decode cX6_copyFrom 37 = .ok (.aload_n 1, 1) := by decide +kernel
theorem dX6_copyFrom_38 : decode cX6_copyFrom 38 = .ok (.getfield 35, 3) := by decide +kernel
theorem dX6_copyFrom_41 : decode cX6_copyFrom 41 = .ok (.invokevirtual 65, 3) := by decide +kernel
theorem dX6_copyFrom_44 : decode cX6_copyFrom 44 = .ok (.aload_n 0, 1) := by decide +kernel
theorem dX6_copyFrom_45 : decode cX6_copyFrom 45 = .ok (.aload_n 1, 1) := by decide +kernel
theorem dX6_copyFrom_46 : decode cX6_copyFrom 46 = .ok (.getfield 39, 3) := by decide +kernel
theorem dX6_copyFrom_49 : decode cX6_copyFrom 49 = .ok (.putfield 39, 3) := by decide +kernel
theorem dX6_copyFrom_52 : decode cX6_copyFrom 52 = .ok (.aload_n 0, 1) := by decide +kernel
theorem dX6_copyFrom_53 : decode cX6_copyFrom 53 = .ok (.aload_n 1, 1) := by decide +kernel
theorem dX6_copyFrom_54 : decode cX6_copyFrom 54 = .ok (.getfield 43, 3) := by decide +kernel
theorem dX6_copyFrom_57 : decode cX6_copyFrom 57 = .ok (.putfield 43, 3) := by decide +kernel
theorem dX6_copyFrom_60 : decode cX6_copyFrom 60 = .ok (.aload_n 0, 1) := by decide +kernel
theorem dX6_copyFrom_61 : decode cX6_copyFrom 61 = .ok (.aload_n 1, 1) := by decide +kernel
theorem dX6_copyFrom_62 : decode cX6_copyFrom 62 = .ok (.getfield 46, 3) := by decide +kernel
theorem dX6_copyFrom_65 : decode cX6_copyFrom 65 = .ok (.putfield 46, 3) := by decide +kernel
theorem dX6_copyFrom_68 : decode cX6_copyFrom 68 = .ok (.aload_n 0, 1) := by decide +kernel
theorem dX6_copyFrom_69 : decode cX6_copyFrom 69 = .ok (.aload_n 1, 1) := by decide +kernel
theorem dX6_copyFrom_70 : decode cX6_copyFrom 70 = .ok (.getfield 49, 3) := by decide +kernel
theorem dX6_copyFrom_73 : decode cX6_copyFrom 73 = .ok (.putfield 49, 3) := by decide +kernel
theorem dX6_copyFrom_76 : decode cX6_copyFrom 76 = .ok (.aload_n 0, 1) := by decide +kernel
theorem dX6_copyFrom_77 : decode cX6_copyFrom 77 = .ok (.aload_n 1, 1) := by decide +kernel
theorem dX6_copyFrom_78 : decode cX6_copyFrom 78 = .ok (.getfield 52, 3) := by decide +kernel
theorem dX6_copyFrom_81 : decode cX6_copyFrom 81 = .ok (.putfield 52, 3) := by decide +kernel
theorem dX6_copyFrom_84 : decode cX6_copyFrom 84 = .ok (.return_, 1) := by decide +kernel
theorem dX6_readHoist_0 : decode cX6_readHoist 0 = .ok (.aload_n 0, 1) := by decide +kernel
theorem dX6_readHoist_1 : decode cX6_readHoist 1 = .ok (.getfield 21, 3) := by decide +kernel
theorem dX6_readHoist_4 : decode cX6_readHoist 4 = .ok (.iload_n 1, 1) := by decide +kernel
theorem dX6_readHoist_5 : decode cX6_readHoist 5 = .ok (.invokevirtual 68, 3) := by decide +kernel
theorem dX6_readHoist_8 : decode cX6_readHoist 8 = .ok (.istore 4, 2) := by decide +kernel
theorem dX6_readHoist_10 : decode cX6_readHoist 10 = .ok (.iload 4, 2) := by decide +kernel
theorem dX6_readHoist_12 : decode cX6_readHoist 12 = .ok (.ifCond .ne 6, 3) := by decide +kernel
theorem dX6_readHoist_15 : decode cX6_readHoist 15 = .ok (.bipush (-7), 2) := by decide +kernel
theorem dX6_readHoist_17 : decode cX6_readHoist 17 = .ok (.ireturn, 1) := by decide +kernel
theorem dX6_readHoist_18 : decode cX6_readHoist 18 = .ok (.iconst 1, 1) := by decide +kernel
theorem dX6_readHoist_19 : decode cX6_readHoist 19 = .ok (.istore 5, 2) := by decide +kernel
theorem dX6_readHoist_21 : decode cX6_readHoist 21 = .ok (.iconst 1, 1) := by decide +kernel
theorem dX6_readHoist_22 : decode cX6_readHoist 22 = .ok (.istore 6, 2) := by decide +kernel
theorem dX6_readHoist_24 : decode cX6_readHoist 24 = .ok (.iload 6, 2) := by decide +kernel
theorem dX6_readHoist_26 : decode cX6_readHoist 26 = .ok (.iload 4, 2) := by decide +kernel
theorem dX6_readHoist_28 : decode cX6_readHoist 28 = .ok (.if_icmp .gt 50, 3) := by decide +kernel
theorem dX6_readHoist_31 : decode cX6_readHoist 31 = .ok (.aload_n 0, 1) := by decide +kernel
theorem dX6_readHoist_32 : decode cX6_readHoist 32 = .ok (.getfield 12, 3) := by decide +kernel
theorem dX6_readHoist_35 : decode cX6_readHoist 35 = .ok (.aload_n 0, 1) := by decide +kernel
theorem dX6_readHoist_36 : decode cX6_readHoist 36 = .ok (.getfield 21, 3) := by decide +kernel
theorem dX6_readHoist_39 : decode cX6_readHoist 39 = .ok (.iload_n 1, 1) := by decide +kernel
theorem dX6_readHoist_40 : decode cX6_readHoist 40 = .ok (.iload 6, 2) := by decide +kernel
theorem dX6_readHoist_42 : decode cX6_readHoist 42 = .ok (.invokevirtual 72, 3) := by decide +kernel
theorem dX6_readHoist_45 : decode cX6_readHoist 45 = .ok (.iload_n 2, 1) := by decide +kernel
theorem dX6_readHoist_46 : decode cX6_readHoist 46 = .ok (.iload_n 3, 1) := by decide +kernel
theorem dX6_readHoist_47 : decode cX6_readHoist 47 = .ok (.invokevirtual 76, 3) := by decide +kernel
theorem dX6_readHoist_50 : decode cX6_readHoist 50 = .ok (.istore 7, 2) := by decide +kernel
theorem dX6_readHoist_52 : decode cX6_readHoist 52 = .ok (.iload 7, 2) := by decide +kernel
theorem dX6_readHoist_54 : decode cX6_readHoist 54 = .ok (.bipush (-6), 2) := by decide +kernel
theorem dX6_readHoist_56 : decode cX6_readHoist 56 = .ok (.if_icmp .ne 6, 3) := by decide +kernel
theorem dX6_readHoist_59 : decode cX6_readHoist 59 = .ok (.bipush (-6), 2) := by decide +kernel
theorem dX6_readHoist_61 : decode cX6_readHoist 61 = .ok (.ireturn, 1) := by decide +kernel
theorem dX6_readHoist_62 : decode cX6_readHoist 62 = .ok (.bipush 10, 2) := by decide +kernel
theorem dX6_readHoist_64 : decode cX6_readHoist 64 = .ok (.iload 5, 2) := by decide +kernel
theorem dX6_readHoist_66 : decode cX6_readHoist 66 = .ok (.imul, 1) := by decide +kernel
theorem dX6_readHoist_67 : decode cX6_readHoist 67 = .ok (.iload 7, 2) := by decide +kernel
theorem dX6_readHoist_69 : decode cX6_readHoist 69 = .ok (.iadd, 1) := by decide +kernel
theorem dX6_readHoist_70 : decode cX6_readHoist 70 = .ok (.istore 5, 2) := by decide +kernel
theorem dX6_readHoist_72 : decode cX6_readHoist 72 = .ok (.iinc 6 1, 3) := by decide +kernel
theorem dX6_readHoist_75 : decode cX6_readHoist 75 = .ok (.goto (-51), 3) := by decide +kernel
theorem dX6_readHoist_78 : decode cX6_readHoist 78 = .ok (.aload_n 0, 1) := by decide +kernel
theorem dX6_readHoist_79 : decode cX6_readHoist 79 = .ok (.getfield 28, 3) := by decide +kernel
theorem dX6_readHoist_82 : decode cX6_readHoist 82 = .ok (.iload 5, 2) := by decide +kernel
theorem dX6_readHoist_84 : decode cX6_readHoist 84 = .ok (.invokevirtual 80, 3) := by decide +kernel
theorem dX6_readHoist_87 : decode cX6_readHoist 87 = .ok (.ireturn, 1) := by decide +kernel
theorem dX7_init_0 : decode cX7_init 0 = .ok (.aload_n 0, 1) := by decide +kernel
theorem dX7_init_1 : decode cX7_init 1 = .ok (.invokespecial 3, 3) := by decide +kernel
theorem dX7_init_4 : decode cX7_init 4 = .ok (.aload_n 0, 1) := by decide +kernel
theorem dX7_init_5 : decode cX7_init 5 = .ok (.bipush 50, 2) := by decide +kernel
theorem dX7_init_7 : decode cX7_init 7 = .ok (.newarray .int, 2) := by decide +kernel
theorem dX7_init_9 : decode cX7_init 9 = .ok (.putfield 9, 3) := by decide +kernel
theorem dX7_init_12 : decode cX7_init 12 = .ok (.aload_n 0, 1) := by decide +kernel
theorem dX7_init_13 : decode cX7_init 13 = .ok (.iconst 0, 1) := by decide +kernel
theorem dX7_init_14 : decode cX7_init 14 = .ok (.putfield 15, 3) := by decide +kernel
theorem dX7_init_17 : decode cX7_init 17 = .ok (.aload_n 0, 1) := by decide +kernel
theorem dX7_init_18 : decode cX7_init 18 = .ok (.new 19, 3) := by decide +kernel
theorem dX7_init_21 : decode cX7_init 21 = .ok (.dup, 1) := by decide +kernel
theorem dX7_init_22 : decode cX7_init 22 = .ok (.invokespecial 21, 3) := by decide +kernel
theorem dX7_init_25 : decode cX7_init 25 = .ok (.putfield 22, 3) := by decide +kernel
theorem dX7_init_28 : decode cX7_init 28 = .ok (.aload_n 0, 1) := by decide +kernel
theorem dX7_init_29 : decode cX7_init 29 = .ok (.iconst (-1), 1) := by decide +kernel
theorem dX7_init_30 : decode cX7_init 30 = .ok (.putfield 26, 3) := by decide +kernel
theorem dX7_init_33 : decode cX7_init 33 = .ok (.aload_n 0, 1) := by decide +kernel
theorem dX7_init_34 : decode cX7_init 34 = .ok (.iconst 0, 1) := by decide +kernel
theorem dX7_init_35 : decode cX7_init 35 = .ok (.putfield 29, 3) := by decide +kernel
theorem dX7_init_38 : decode cX7_init 38 = .ok (.return_, 1) := by decide +kernel
theorem dX7_size_0 : decode cX7_size 0 = .ok (.aload_n 0, 1) := by decide +kernel
theorem dX7_size_1 : decode cX7_size 1 = .ok (.getfield 15, 3) := by decide +kernel
theorem dX7_size_4 : decode cX7_size 4 = .ok (.ireturn, 1) := by decide +kernel
theorem dX7_add_0 : decode cX7_add 0 = .ok (.aload_n 0, 1) := by decide +kernel
theorem dX7_add_1 : decode cX7_add 1 = .ok (.getfield 15, 3) := by decide +kernel
theorem dX7_add_4 : decode cX7_add 4 = .ok (.bipush 50, 2) := by decide +kernel
theorem dX7_add_6 : decode cX7_add 6 = .ok (.invokestatic 32, 3) := by decide +kernel
theorem dX7_add_9 : decode cX7_add 9 = .ok (.ifCond .eq 23, 3) := by decide +kernel
theorem dX7_add_12 : decode cX7_add 12 = .ok (.aload_n 0, 1) := by decide +kernel
theorem dX7_add_13 : decode cX7_add 13 = .ok (.getfield 9, 3) := by decide +kernel
theorem dX7_add_16 : decode cX7_add 16 = .ok (.aload_n 0, 1) := by decide +kernel
theorem dX7_add_17 : decode cX7_add 17 = .ok (.getfield 15, 3) := by decide +kernel
theorem dX7_add_20 : decode cX7_add 20 = .ok (.iload_n 1, 1) := by decide +kernel
theorem dX7_add_21 : decode cX7_add 21 = .ok (.iastore, 1) := by decide +kernel
theorem dX7_add_22 : decode cX7_add 22 = .ok (.aload_n 0, 1) := by decide +kernel
theorem dX7_add_23 : decode cX7_add 23 = .ok (.dup, 1) := by decide +kernel
theorem dX7_add_24 : decode cX7_add 24 = .ok (.getfield 15, 3) := by decide +kernel
theorem dX7_add_27 : decode cX7_add 27 = .ok (.iconst 1, 1) := by decide +kernel
theorem dX7_add_28 : decode cX7_add 28 = .ok (.iadd, 1) := by decide +kernel
theorem dX7_add_29 : decode cX7_add 29 = .ok (.putfield 15, 3) := by decide +kernel
theorem dX7_add_32 : decode cX7_add 32 = .ok (.return_, 1) := by decide +kernel
theorem dX7_clear_0 : decode cX7_clear 0 = .ok (.aload_n 0, 1) := by decide +kernel
theorem dX7_clear_1 : decode cX7_clear 1 = .ok (.iconst 0, 1) := by decide +kernel
theorem dX7_clear_2 : decode cX7_clear 2 = .ok (.putfield 15, 3) := by decide +kernel
theorem dX7_clear_5 : decode cX7_clear 5 = .ok (.return_, 1) := by decide +kernel
theorem dX7_parse_0 : decode cX7_parse 0 = .ok (.aload_n 0, 1) := by decide +kernel
theorem dX7_parse_1 : decode cX7_parse 1 = .ok (.getfield 22, 3) := by decide +kernel
theorem dX7_parse_4 : decode cX7_parse 4 = .ok (.invokevirtual 36, 3) := by decide +kernel
theorem dX7_parse_7 : decode cX7_parse 7 = .ok (.aload_n 0, 1) := by decide +kernel
theorem dX7_parse_8 : decode cX7_parse 8 = .ok (.iconst (-1), 1) := by decide +kernel
theorem dX7_parse_9 : decode cX7_parse 9 = .ok (.putfield 26, 3) := by decide +kernel
theorem dX7_parse_12 : decode cX7_parse 12 = .ok (.aload_n 0, 1) := by decide +kernel
theorem dX7_parse_13 : decode cX7_parse 13 = .ok (.iconst 0, 1) := by decide +kernel
theorem dX7_parse_14 : decode cX7_parse 14 = .ok (.putfield 29, 3) := by decide +kernel
theorem dX7_parse_17 : decode cX7_parse 17 = .ok (.iconst 0, 1) := by decide +kernel
theorem dX7_parse_18 : decode cX7_parse 18 = .ok (.istore_n 1, 1) := by decide +kernel
theorem dX7_parse_19 : decode cX7_parse 19 = .ok (.iload_n 1, 1) := by decide +kernel
theorem dX7_parse_20 : decode cX7_parse 20 = .ok (.aload_n 0, 1) := by decide +kernel
theorem dX7_parse_21 : decode cX7_parse 21 = .ok (.getfield 15, 3) := by decide +kernel
theorem dX7_parse_24 : decode cX7_parse 24 = .ok (.if_icmp .ge 30, 3) := by decide +kernel
theorem dX7_parse_27 : decode cX7_parse 27 = .ok (.iload_n 1, 1) := by decide +kernel
theorem dX7_parse_28 : decode cX7_parse 28 = .ok (.bipush 50, 2) := by decide +kernel
theorem dX7_parse_30 : decode cX7_parse 30 = .ok (.if_icmp .ge 24, 3) := by decide +kernel
theorem dX7_parse_33 : decode cX7_parse 33 = .ok (.aload_n 0, 1) := by decide +kernel
theorem dX7_parse_34 : decode cX7_parse 34 = .ok (.aload_n 0, 1) := by decide +kernel
theorem dX7_parse_35 : decode cX7_parse 35 = .ok (.getfield 9, 3) := by decide +kernel
theorem dX7_parse_38 : decode cX7_parse 38 = .ok (.iload_n 1, 1) := by decide +kernel
theorem dX7_parse_39 : decode cX7_parse 39 = .ok (.iaload, 1) := by decide +kernel
theorem dX7_parse_40 : decode cX7_parse 40 = .ok (.invokevirtual 39, 3) := by decide +kernel
theorem dX7_parse_43 : decode cX7_parse 43 = .ok (.ifCond .ne 5, 3) := by decide +kernel
theorem dX7_parse_46 : decode cX7_parse 46 = .ok (.iload_n 1, 1) := by decide +kernel
theorem dX7_parse_47 : decode cX7_parse 47 = .ok (.ireturn, 1) := by decide +kernel
theorem dX7_parse_48 : decode cX7_parse 48 = .ok (.iinc 1 1, 3) := by decide +kernel
theorem dX7_parse_51 : decode cX7_parse 51 = .ok (.goto (-32), 3) := by decide +kernel
theorem dX7_parse_54 : decode cX7_parse 54 = .ok (.aload_n 0, 1) := by decide +kernel
theorem dX7_parse_55 : decode cX7_parse 55 = .ok (.getfield 29, 3) := by decide +kernel
theorem dX7_parse_58 : decode cX7_parse 58 = .ok (.iconst 3, 1) := by decide +kernel
theorem dX7_parse_59 : decode cX7_parse 59 = .ok (.if_icmp .ne 8, 3) := by decide +kernel
theorem dX7_parse_62 : decode cX7_parse 62 = .ok (.bipush (-6), 2) := by decide +kernel
theorem dX7_parse_64 : decode cX7_parse 64 = .ok (.goto 7, 3) := by decide +kernel
theorem dX7_parse_67 : decode cX7_parse 67 = .ok (.aload_n 0, 1) := by decide +kernel
theorem dX7_parse_68 : decode cX7_parse 68 = .ok (.getfield 15, 3) := by decide +kernel
theorem dX7_parse_71 : decode cX7_parse 71 = .ok (.ireturn, 1) := by decide +kernel
theorem dX7_accept_0 : decode cX7_accept 0 = .ok (.aload_n 0, 1) := by decide +kernel
theorem dX7_accept_1 : decode cX7_accept 1 = .ok (.getfield 29, 3) := by decide +kernel
theorem dX7_accept_4 : decode cX7_accept 4 = .ok (.tableswitch 73 0 3 #[32, 41, 58, 67], 32) := by decide +kernel
theorem dX7_accept_36 : decode cX7_accept 36 = .ok (.aload_n 0, 1) := by decide +kernel
theorem dX7_accept_37 : decode cX7_accept 37 = .ok (.iload_n 1, 1) := by decide +kernel
theorem dX7_accept_38 : decode cX7_accept 38 = .ok (.bipush 48, 2) := by decide +kernel
theorem dX7_accept_40 : decode cX7_accept 40 = .ok (.isub, 1) := by decide +kernel
theorem dX7_accept_41 : decode cX7_accept 41 = .ok (.invokevirtual 43, 3) := by decide +kernel
theorem dX7_accept_44 : decode cX7_accept 44 = .ok (.ireturn, 1) := by decide +kernel
theorem dX7_accept_45 : decode cX7_accept 45 = .ok (.aload_n 0, 1) := by decide +kernel
theorem dX7_accept_46 : decode cX7_accept 46 = .ok (.iconst 2, 1) := by decide +kernel
theorem dX7_accept_47 : decode cX7_accept 47 = .ok (.putfield 29, 3) := by decide +kernel
theorem dX7_accept_50 : decode cX7_accept 50 = .ok (.iload_n 1, 1) := by decide +kernel
theorem dX7_accept_51 : decode cX7_accept 51 = .ok (.bipush 58, 2) := by decide +kernel
theorem dX7_accept_53 : decode cX7_accept 53 = .ok (.if_icmp .ne 7, 3) := by decide +kernel
theorem dX7_accept_56 : decode cX7_accept 56 = .ok (.iconst 1, 1) := by decide +kernel
theorem dX7_accept_57 : decode cX7_accept 57 = .ok (.goto 4, 3) := by decide +kernel
theorem dX7_accept_60 : decode cX7_accept 60 = .ok (.iconst 0, 1) := by decide +kernel
theorem dX7_accept_61 : decode cX7_accept 61 = .ok (.ireturn, 1) := by decide +kernel
theorem dX7_accept_62 : decode cX7_accept 62 = .ok (.aload_n 0, 1) := by decide +kernel
theorem dX7_accept_63 : decode cX7_accept 63 = .ok (.iload_n 1, 1) := by decide +kernel
theorem dX7_accept_64 : decode cX7_accept 64 = .ok (.bipush 48, 2) := by decide +kernel
theorem dX7_accept_66 : decode cX7_accept 66 = .ok (.isub, 1) := by decide +kernel
theorem dX7_accept_67 : decode cX7_accept 67 = .ok (.invokevirtual 46, 3) := by decide +kernel
theorem dX7_accept_70 : decode cX7_accept 70 = .ok (.ireturn, 1) := by decide +kernel
theorem dX7_accept_71 : decode cX7_accept 71 = .ok (.aload_n 0, 1) := by decide +kernel
theorem dX7_accept_72 : decode cX7_accept 72 = .ok (.iload_n 1, 1) := by decide +kernel
theorem dX7_accept_73 : decode cX7_accept 73 = .ok (.invokevirtual 49, 3) := by decide +kernel
theorem dX7_accept_76 : decode cX7_accept 76 = .ok (.ireturn, 1) := by decide +kernel
theorem dX7_accept_77 : decode cX7_accept 77 = .ok (.aload_n 0, 1) := by decide +kernel
theorem dX7_accept_78 : decode cX7_accept 78 = .ok (.iload_n 1, 1) := by decide +kernel
theorem dX7_accept_79 : decode cX7_accept 79 = .ok (.bipush 48, 2) := by decide +kernel
theorem dX7_accept_81 : decode cX7_accept 81 = .ok (.isub, 1) := by decide +kernel
theorem dX7_accept_82 : decode cX7_accept 82 = .ok (.invokevirtual 52, 3) := by decide +kernel
theorem dX7_accept_85 : decode cX7_accept 85 = .ok (.ireturn, 1) := by decide +kernel
theorem dX7_acceptHalyard_0 : decode cX7_acceptHalyard 0 = .ok (.iload_n 1, 1) := by decide +kernel
theorem dX7_acceptHalyard_1 : decode cX7_acceptHalyard 1 = .ok (.aload_n 0, 1) := by decide +kernel
theorem dX7_acceptHalyard_2 : decode cX7_acceptHalyard 2 = .ok (.getfield 26, 3) := by decide +kernel
theorem dX7_acceptHalyard_5 : decode cX7_acceptHalyard 5 = .ok (.if_icmp .le 8, 3) := by decide +kernel
theorem dX7_acceptHalyard_8 : decode cX7_acceptHalyard 8 = .ok (.iload_n 1, 1) := by decide +kernel
theorem dX7_acceptHalyard_9 : decode cX7_acceptHalyard 9 = .ok (.iconst 5, 1) := by decide +kernel
theorem dX7_acceptHalyard_10 : decode cX7_acceptHalyard 10 = .ok (.if_icmp .lt 5, 3) := by decide +kernel
theorem dX7_acceptHalyard_13 : decode cX7_acceptHalyard 13 = .ok (.iconst 0, 1) := by decide +kernel
theorem dX7_acceptHalyard_14 : decode cX7_acceptHalyard 14 = .ok (.ireturn, 1) := by decide +kernel
theorem dX7_acceptHalyard_15 : decode cX7_acceptHalyard 15 = .ok (.aload_n 0, 1) := by decide +kernel
theorem dX7_acceptHalyard_16 : decode cX7_acceptHalyard 16 = .ok (.iload_n 1, 1) := by decide +kernel
theorem dX7_acceptHalyard_17 : decode cX7_acceptHalyard 17 = .ok (.putfield 26, 3) := by decide +kernel
theorem dX7_acceptHalyard_20 : decode cX7_acceptHalyard 20 = .ok (.aload_n 0, 1) := by decide +kernel
theorem dX7_acceptHalyard_21 : decode cX7_acceptHalyard 21 = .ok (.iconst 1, 1) := by decide +kernel
theorem dX7_acceptHalyard_22 : decode cX7_acceptHalyard 22 = .ok (.putfield 29, 3) := by decide +kernel
theorem dX7_acceptHalyard_25 : decode cX7_acceptHalyard 25 = .ok (.iconst 1, 1) := by decide +kernel
theorem dX7_acceptHalyard_26 : decode cX7_acceptHalyard 26 = .ok (.ireturn, 1) := by decide +kernel
theorem dX7_acceptFlag_0 : decode cX7_acceptFlag 0 = .ok (.iload_n 1, 1) := by decide +kernel
theorem dX7_acceptFlag_1 : decode cX7_acceptFlag 1 = .ok (.bipush 10, 2) := by decide +kernel
theorem dX7_acceptFlag_3 : decode cX7_acceptFlag 3 = .ok (.invokestatic 32, 3) := by decide +kernel
theorem dX7_acceptFlag_6 : decode cX7_acceptFlag 6 = .ok (.ifCond .eq 18, 3) := by decide +kernel
theorem dX7_acceptFlag_9 : decode cX7_acceptFlag 9 = .ok (.aload_n 0, 1) := by decide +kernel
theorem dX7_acceptFlag_10 : decode cX7_acceptFlag 10 = .ok (.getfield 22, 3) := by decide +kernel
theorem dX7_acceptFlag_13 : decode cX7_acceptFlag 13 = .ok (.aload_n 0, 1) := by decide +kernel
theorem dX7_acceptFlag_14 : decode cX7_acceptFlag 14 = .ok (.getfield 26, 3) := by decide +kernel
theorem dX7_acceptFlag_17 : decode cX7_acceptFlag 17 = .ok (.invokevirtual 55, 3) := by decide +kernel
theorem dX7_acceptFlag_20 : decode cX7_acceptFlag 20 = .ok (.iconst 4, 1) := by decide +kernel
theorem dX7_acceptFlag_21 : decode cX7_acceptFlag 21 = .ok (.if_icmp .lt 5, 3) := by decide +kernel
theorem dX7_acceptFlag_24 : decode cX7_acceptFlag 24 = .ok (.iconst 0, 1) := by decide +kernel
theorem dX7_acceptFlag_25 : decode cX7_acceptFlag 25 = .ok (.ireturn, 1) := by decide +kernel
theorem dX7_acceptFlag_26 : decode cX7_acceptFlag 26 = .ok (.aload_n 0, 1) := by decide +kernel
theorem dX7_acceptFlag_27 : decode cX7_acceptFlag 27 = .ok (.getfield 22, 3) := by decide +kernel
theorem dX7_acceptFlag_30 : decode cX7_acceptFlag 30 = .ok (.aload_n 0, 1) := by decide +kernel
theorem dX7_acceptFlag_31 : decode cX7_acceptFlag 31 = .ok (.getfield 26, 3) := by decide +kernel
theorem dX7_acceptFlag_34 : decode cX7_acceptFlag 34 = .ok (.iload_n 1, 1) := by decide +kernel
theorem dX7_acceptFlag_35 : decode cX7_acceptFlag 35 = .ok (.invokevirtual 59, 3) := by decide +kernel
theorem dX7_acceptFlag_38 : decode cX7_acceptFlag 38 = .ok (.aload_n 0, 1) := by decide +kernel
theorem dX7_acceptFlag_39 : decode cX7_acceptFlag 39 = .ok (.iconst 3, 1) := by decide +kernel
theorem dX7_acceptFlag_40 : decode cX7_acceptFlag 40 = .ok (.putfield 29, 3) := by decide +kernel
theorem dX7_acceptFlag_43 : decode cX7_acceptFlag 43 = .ok (.iconst 1, 1) := by decide +kernel
theorem dX7_acceptFlag_44 : decode cX7_acceptFlag 44 = .ok (.ireturn, 1) := by decide +kernel
theorem dX7_acceptMore_0 : decode cX7_acceptMore 0 = .ok (.iload_n 1, 1) := by decide +kernel
theorem dX7_acceptMore_1 : decode cX7_acceptMore 1 = .ok (.bipush 44, 2) := by decide +kernel
theorem dX7_acceptMore_3 : decode cX7_acceptMore 3 = .ok (.if_icmp .ne 22, 3) := by decide +kernel
theorem dX7_acceptMore_6 : decode cX7_acceptMore 6 = .ok (.aload_n 0, 1) := by decide +kernel
theorem dX7_acceptMore_7 : decode cX7_acceptMore 7 = .ok (.iconst 0, 1) := by decide +kernel
theorem dX7_acceptMore_8 : decode cX7_acceptMore 8 = .ok (.putfield 29, 3) := by decide +kernel
theorem dX7_acceptMore_11 : decode cX7_acceptMore 11 = .ok (.aload_n 0, 1) := by decide +kernel
theorem dX7_acceptMore_12 : decode cX7_acceptMore 12 = .ok (.getfield 26, 3) := by decide +kernel
theorem dX7_acceptMore_15 : decode cX7_acceptMore 15 = .ok (.iconst 4, 1) := by decide +kernel
theorem dX7_acceptMore_16 : decode cX7_acceptMore 16 = .ok (.if_icmp .ge 7, 3) := by decide +kernel
theorem dX7_acceptMore_19 : decode cX7_acceptMore 19 = .ok (.iconst 1, 1) := by decide +kernel
theorem dX7_acceptMore_20 : decode cX7_acceptMore 20 = .ok (.goto 4, 3) := by decide +kernel
theorem dX7_acceptMore_23 : decode cX7_acceptMore 23 = .ok (.iconst 0, 1) := by decide +kernel
theorem dX7_acceptMore_24 : decode cX7_acceptMore 24 = .ok (.ireturn, 1) := by decide +kernel
theorem dX7_acceptMore_25 : decode cX7_acceptMore 25 = .ok (.iload_n 1, 1) := by decide +kernel
theorem dX7_acceptMore_26 : decode cX7_acceptMore 26 = .ok (.bipush 114, 2) := by decide +kernel
theorem dX7_acceptMore_28 : decode cX7_acceptMore 28 = .ok (.if_icmp .ne 29, 3) := by decide +kernel
theorem dX7_acceptMore_31 : decode cX7_acceptMore 31 = .ok (.aload_n 0, 1) := by decide +kernel
theorem dX7_acceptMore_32 : decode cX7_acceptMore 32 = .ok (.iconst 4, 1) := by decide +kernel
theorem dX7_acceptMore_33 : decode cX7_acceptMore 33 = .ok (.putfield 29, 3) := by decide +kernel
theorem dX7_acceptMore_36 : decode cX7_acceptMore 36 = .ok (.aload_n 0, 1) := by decide +kernel
theorem dX7_acceptMore_37 : decode cX7_acceptMore 37 = .ok (.getfield 22, 3) := by decide +kernel
theorem dX7_acceptMore_40 : decode cX7_acceptMore 40 = .ok (.aload_n 0, 1) := by decide +kernel
theorem dX7_acceptMore_41 : decode cX7_acceptMore 41 = .ok (.getfield 26, 3) := by decide +kernel
theorem dX7_acceptMore_44 : decode cX7_acceptMore 44 = .ok (.invokevirtual 55, 3) := by decide +kernel
theorem dX7_acceptMore_47 : decode cX7_acceptMore 47 = .ok (.iconst 4, 1) := by decide +kernel
theorem dX7_acceptMore_48 : decode cX7_acceptMore 48 = .ok (.if_icmp .ge 7, 3) := by decide +kernel
theorem dX7_acceptMore_51 : decode cX7_acceptMore 51 = .ok (.iconst 1, 1) := by decide +kernel
theorem dX7_acceptMore_52 : decode cX7_acceptMore 52 = .ok (.goto 4, 3) := by decide +kernel
theorem dX7_acceptMore_55 : decode cX7_acceptMore 55 = .ok (.iconst 0, 1) := by decide +kernel
theorem dX7_acceptMore_56 : decode cX7_acceptMore 56 = .ok (.ireturn, 1) := by decide +kernel
theorem dX7_acceptMore_57 : decode cX7_acceptMore 57 = .ok (.aload_n 0, 1) := by decide +kernel
theorem dX7_acceptMore_58 : decode cX7_acceptMore 58 = .ok (.iload_n 1, 1) := by decide +kernel
theorem dX7_acceptMore_59 : decode cX7_acceptMore 59 = .ok (.bipush 48, 2) := by decide +kernel
theorem dX7_acceptMore_61 : decode cX7_acceptMore 61 = .ok (.isub, 1) := by decide +kernel
theorem dX7_acceptMore_62 : decode cX7_acceptMore 62 = .ok (.invokevirtual 46, 3) := by decide +kernel
theorem dX7_acceptMore_65 : decode cX7_acceptMore 65 = .ok (.ireturn, 1) := by decide +kernel
theorem dX7_acceptPennant_0 : decode cX7_acceptPennant 0 = .ok (.iload_n 1, 1) := by decide +kernel
theorem dX7_acceptPennant_1 : decode cX7_acceptPennant 1 = .ok (.iconst 1, 1) := by decide +kernel
theorem dX7_acceptPennant_2 : decode cX7_acceptPennant 2 = .ok (.if_icmp .lt 23, 3) := by decide +kernel
theorem dX7_acceptPennant_5 : decode cX7_acceptPennant 5 = .ok (.iload_n 1, 1) := by decide +kernel
theorem dX7_acceptPennant_6 : decode cX7_acceptPennant 6 = .ok (.iconst 3, 1) := by decide +kernel
theorem dX7_acceptPennant_7 : decode cX7_acceptPennant 7 = .ok (.if_icmp .gt 18, 3) := by decide +kernel
theorem dX7_acceptPennant_10 : decode cX7_acceptPennant 10 = .ok (.iload_n 1, 1) := by decide +kernel
theorem dX7_acceptPennant_11 : decode cX7_acceptPennant 11 = .ok (.aload_n 0, 1) := by decide +kernel
theorem dX7_acceptPennant_12 : decode cX7_acceptPennant 12 = .ok (.getfield 22, 3) := by decide +kernel
theorem dX7_acceptPennant_15 : decode cX7_acceptPennant 15 = .ok (.aload_n 0, 1) := by decide +kernel
theorem dX7_acceptPennant_16 : decode cX7_acceptPennant 16 = .ok (.getfield 26, 3) := by decide +kernel
theorem dX7_acceptPennant_19 : decode cX7_acceptPennant 19 = .ok (.invokevirtual 55, 3) := by decide +kernel
theorem dX7_acceptPennant_22 : decode cX7_acceptPennant 22 = .ok (.if_icmp .le 5, 3) := by decide +kernel
theorem dX7_acceptPennant_25 : decode cX7_acceptPennant 25 = .ok (.iconst 0, 1) := by decide +kernel
theorem dX7_acceptPennant_26 : decode cX7_acceptPennant 26 = .ok (.ireturn, 1) := by decide +kernel
theorem dX7_acceptPennant_27 : decode cX7_acceptPennant 27 = .ok (.aload_n 0, 1) := by decide +kernel
theorem dX7_acceptPennant_28 : decode cX7_acceptPennant 28 = .ok (.getfield 22, 3) := by decide +kernel
theorem dX7_acceptPennant_31 : decode cX7_acceptPennant 31 = .ok (.aload_n 0, 1) := by decide +kernel
theorem dX7_acceptPennant_32 : decode cX7_acceptPennant 32 = .ok (.getfield 26, 3) := by decide +kernel
theorem dX7_acceptPennant_35 : decode cX7_acceptPennant 35 = .ok (.bipush 10, 2) := by decide +kernel
theorem dX7_acceptPennant_37 : decode cX7_acceptPennant 37 = .ok (.iload_n 1, 1) := by decide +kernel
theorem dX7_acceptPennant_38 : decode cX7_acceptPennant 38 = .ok (.iadd, 1) := by decide +kernel
theorem dX7_acceptPennant_39 : decode cX7_acceptPennant 39 = .ok (.invokevirtual 59, 3) := by decide +kernel
theorem dX7_acceptPennant_42 : decode cX7_acceptPennant 42 = .ok (.aload_n 0, 1) := by decide +kernel
theorem dX7_acceptPennant_43 : decode cX7_acceptPennant 43 = .ok (.iconst 3, 1) := by decide +kernel
theorem dX7_acceptPennant_44 : decode cX7_acceptPennant 44 = .ok (.putfield 29, 3) := by decide +kernel
theorem dX7_acceptPennant_47 : decode cX7_acceptPennant 47 = .ok (.iconst 1, 1) := by decide +kernel
theorem dX7_acceptPennant_48 : decode cX7_acceptPennant 48 = .ok (.ireturn, 1) := by decide +kernel
theorem dX8_init_0 : decode cX8_init 0 = .ok (.aload_n 0, 1) := by decide +kernel
theorem dX8_init_1 : decode cX8_init 1 = .ok (.invokespecial 1, 3) := by decide +kernel
theorem dX8_init_4 : decode cX8_init 4 = .ok (.aload_n 0, 1) := by decide +kernel
theorem dX8_init_5 : decode cX8_init 5 = .ok (.new 7, 3) := by decide +kernel
theorem dX8_init_8 : decode cX8_init 8 = .ok (.dup, 1) := by decide +kernel
theorem dX8_init_9 : decode cX8_init 9 = .ok (.invokespecial 9, 3) := by decide +kernel
theorem dX8_init_12 : decode cX8_init 12 = .ok (.putfield 10, 3) := by decide +kernel
theorem dX8_init_15 : decode cX8_init 15 = .ok (.aload_n 0, 1) := by decide +kernel
theorem dX8_init_16 : decode cX8_init 16 = .ok (.new 7, 3) := by decide +kernel
theorem dX8_init_19 : decode cX8_init 19 = .ok (.dup, 1) := by decide +kernel
theorem dX8_init_20 : decode cX8_init 20 = .ok (.invokespecial 9, 3) := by decide +kernel
theorem dX8_init_23 : decode cX8_init 23 = .ok (.putfield 16, 3) := by decide +kernel
theorem dX8_init_26 : decode cX8_init 26 = .ok (.aload_n 0, 1) := by decide +kernel
theorem dX8_init_27 : decode cX8_init 27 = .ok (.iconst 0, 1) := by decide +kernel
theorem dX8_init_28 : decode cX8_init 28 = .ok (.putfield 19, 3) := by decide +kernel
theorem dX8_init_31 : decode cX8_init 31 = .ok (.aload_n 0, 1) := by decide +kernel
theorem dX8_init_32 : decode cX8_init 32 = .ok (.new 23, 3) := by decide +kernel
theorem dX8_init_35 : decode cX8_init 35 = .ok (.dup, 1) := by decide +kernel
theorem dX8_init_36 : decode cX8_init 36 = .ok (.invokespecial 25, 3) := by decide +kernel
theorem dX8_init_39 : decode cX8_init 39 = .ok (.putfield 26, 3) := by decide +kernel
theorem dX8_init_42 : decode cX8_init 42 = .ok (.aload_n 0, 1) := by decide +kernel
theorem dX8_init_43 : decode cX8_init 43 = .ok (.new 30, 3) := by decide +kernel
theorem dX8_init_46 : decode cX8_init 46 = .ok (.dup, 1) := by decide +kernel
theorem dX8_init_47 : decode cX8_init 47 = .ok (.invokespecial 32, 3) := by decide +kernel
theorem dX8_init_50 : decode cX8_init 50 = .ok (.putfield 33, 3) := by decide +kernel
theorem dX8_init_53 : decode cX8_init 53 = .ok (.aload_n 0, 1) := by decide +kernel
theorem dX8_init_54 : decode cX8_init 54 = .ok (.new 37, 3) := by decide +kernel
theorem dX8_init_57 : decode cX8_init 57 = .ok (.dup, 1) := by decide +kernel
theorem dX8_init_58 : decode cX8_init 58 = .ok (.iconst 0, 1) := by decide +kernel
theorem dX8_init_59 : decode cX8_init 59 = .ok (.invokespecial 39, 3) := by decide +kernel
theorem dX8_init_62 : decode cX8_init 62 = .ok (.putfield 42, 3) := by decide +kernel
theorem dX8_init_65 : decode cX8_init 65 = .ok (.aload_n 0, 1) := by decide +kernel
theorem dX8_init_66 : decode cX8_init 66 = .ok (.new 37, 3) := by decide +kernel
theorem dX8_init_69 : decode cX8_init 69 = .ok (.dup, 1) := by decide +kernel
theorem dX8_init_70 : decode cX8_init 70 = .ok (.iconst 1, 1) := by decide +kernel
theorem dX8_init_71 : decode cX8_init 71 = .ok (.invokespecial 39, 3) := by decide +kernel
theorem dX8_init_74 : decode cX8_init 74 = .ok (.putfield 46, 3) := by decide +kernel
theorem dX8_init_77 : decode cX8_init 77 = .ok (.return_, 1) := by decide +kernel
theorem dX8_paint_0 : decode cX8_paint 0 = .ok (.iload_n 1, 1) := by decide +kernel
theorem dX8_paint_1 : decode cX8_paint 1 = .ok (.bipush 10, 2) := by decide +kernel
theorem dX8_paint_3 : decode cX8_paint 3 = .ok (.invokestatic 49, 3) := by decide +kernel
theorem dX8_paint_6 : decode cX8_paint 6 = .ok (.ifCond .ne 5, 3) := by decide +kernel
theorem dX8_paint_9 : decode cX8_paint 9 = .ok (.iconst (-1), 1) := by decide +kernel
theorem dX8_paint_10 : decode cX8_paint 10 = .ok (.ireturn, 1) := by decide +kernel
theorem dX8_paint_11 : decode cX8_paint 11 = .ok (.iload_n 2, 1) := by decide +kernel
theorem dX8_paint_12 : decode cX8_paint 12 = .ok (.bipush 8, 2) := by decide +kernel
theorem dX8_paint_14 : decode cX8_paint 14 = .ok (.invokestatic 49, 3) := by decide +kernel
theorem dX8_paint_17 : decode cX8_paint 17 = .ok (.ifCond .eq 22, 3) := by decide +kernel
theorem dX8_paint_20 : decode cX8_paint 20 = .ok (.iload_n 3, 1) := by decide +kernel
theorem dX8_paint_21 : decode cX8_paint 21 = .ok (.bipush 8, 2) := by decide +kernel
theorem dX8_paint_23 : decode cX8_paint 23 = .ok (.invokestatic 49, 3) := by decide +kernel
theorem dX8_paint_26 : decode cX8_paint 26 = .ok (.ifCond .eq 13, 3) := by decide +kernel
theorem dX8_paint_29 : decode cX8_paint 29 = .ok (.iload 4, 2) := by decide +kernel
theorem dX8_paint_31 : decode cX8_paint 31 = .ok (.bipush 10, 2) := by decide +kernel
theorem dX8_paint_33 : decode cX8_paint 33 = .ok (.invokestatic 49, 3) := by decide +kernel
theorem dX8_paint_36 : decode cX8_paint 36 = .ok (.ifCond .ne 6, 3) := by decide +kernel
theorem dX8_paint_39 : decode cX8_paint 39 = .ok (.bipush (-2), 2) := by decide +kernel
theorem dX8_paint_41 : decode cX8_paint 41 = .ok (.ireturn, 1) := by decide +kernel
theorem dX8_paint_42 : decode cX8_paint 42 = .ok (.aload_n 0, 1) := by decide +kernel
theorem dX8_paint_43 : decode cX8_paint 43 = .ok (.invokevirtual 53, 3) := by decide +kernel
theorem dX8_paint_46 : decode cX8_paint 46 = .ok (.aload_n 0, 1) := by decide +kernel
theorem dX8_paint_47 : decode cX8_paint 47 = .ok (.getfield 10, 3) := by decide +kernel
theorem dX8_paint_50 : decode cX8_paint 50 = .ok (.getfield 56, 3) := by decide +kernel
theorem dX8_paint_53 : decode cX8_paint 53 = .ok (.iload_n 1, 1) := by decide +kernel
theorem dX8_paint_54 : decode cX8_paint 54 = .ok (.iload_n 2, 1) := by decide +kernel
theorem dX8_paint_55 : decode cX8_paint 55 = .ok (.iload_n 3, 1) := by decide +kernel
theorem dX8_paint_56 : decode cX8_paint 56 = .ok (.iload 4, 2) := by decide +kernel
theorem dX8_paint_58 : decode cX8_paint 58 = .ok (.invokevirtual 60, 3) := by decide +kernel
theorem dX8_paint_61 : decode cX8_paint 61 = .ok (.aload_n 0, 1) := by decide +kernel
theorem dX8_paint_62 : decode cX8_paint 62 = .ok (.getfield 10, 3) := by decide +kernel
theorem dX8_paint_65 : decode cX8_paint 65 = .ok (.getfield 56, 3) := by decide +kernel
theorem dX8_paint_68 : decode cX8_paint 68 = .ok (.iload_n 2, 1) := by decide +kernel
theorem dX8_paint_69 : decode cX8_paint 69 = .ok (.iload_n 3, 1) := by decide +kernel
theorem dX8_paint_70 : decode cX8_paint 70 = .ok (.invokevirtual 66, 3) := by decide +kernel
theorem dX8_paint_73 : decode cX8_paint 73 = .ok (.ireturn, 1) := by decide +kernel
theorem dX8_setStock_0 : decode cX8_setStock 0 = .ok (.iload_n 1, 1) := by decide +kernel
theorem dX8_setStock_1 : decode cX8_setStock 1 = .ok (.iconst 1, 1) := by decide +kernel
theorem dX8_setStock_2 : decode cX8_setStock 2 = .ok (.if_icmp .lt 8, 3) := by decide +kernel
theorem dX8_setStock_5 : decode cX8_setStock 5 = .ok (.iload_n 1, 1) := by decide +kernel
theorem dX8_setStock_6 : decode cX8_setStock 6 = .ok (.iconst 3, 1) := by decide +kernel
theorem dX8_setStock_7 : decode cX8_setStock 7 = .ok (.if_icmp .le 6, 3) := by decide +kernel
theorem dX8_setStock_10 : decode cX8_setStock 10 = .ok (.bipush (-2), 2) := by decide +kernel
theorem dX8_setStock_12 : decode cX8_setStock 12 = .ok (.ireturn, 1) := by decide +kernel
theorem dX8_setStock_13 : decode cX8_setStock 13 = .ok (.aload_n 0, 1) := by decide +kernel
theorem dX8_setStock_14 : decode cX8_setStock 14 = .ok (.getfield 10, 3) := by decide +kernel
theorem dX8_setStock_17 : decode cX8_setStock 17 = .ok (.getfield 70, 3) := by decide +kernel
theorem dX8_setStock_20 : decode cX8_setStock 20 = .ok (.invokevirtual 74, 3) := by decide +kernel
theorem dX8_setStock_23 : decode cX8_setStock 23 = .ok (.iload_n 1, 1) := by decide +kernel
theorem dX8_setStock_24 : decode cX8_setStock 24 = .ok (.if_icmp .le 6, 3) := by decide +kernel
theorem dX8_setStock_27 : decode cX8_setStock 27 = .ok (.bipush (-3), 2) := by decide +kernel
theorem dX8_setStock_29 : decode cX8_setStock 29 = .ok (.ireturn, 1) := by decide +kernel
theorem dX8_setStock_30 : decode cX8_setStock 30 = .ok (.aload_n 0, 1) := by decide +kernel
theorem dX8_setStock_31 : decode cX8_setStock 31 = .ok (.getfield 26, 3) := by decide +kernel
theorem dX8_setStock_34 : decode cX8_setStock 34 = .ok (.aload_n 0, 1) := by decide +kernel
theorem dX8_setStock_35 : decode cX8_setStock 35 = .ok (.getfield 10, 3) := by decide +kernel
theorem dX8_setStock_38 : decode cX8_setStock 38 = .ok (.invokevirtual 80, 3) := by decide +kernel
theorem dX8_setStock_41 : decode cX8_setStock 41 = .ok (.aload_n 0, 1) := by decide +kernel
theorem dX8_setStock_42 : decode cX8_setStock 42 = .ok (.getfield 10, 3) := by decide +kernel
theorem dX8_setStock_45 : decode cX8_setStock 45 = .ok (.getfield 84, 3) := by decide +kernel
theorem dX8_setStock_48 : decode cX8_setStock 48 = .ok (.istore_n 2, 1) := by decide +kernel
theorem dX8_setStock_49 : decode cX8_setStock 49 = .ok (.aload_n 0, 1) := by decide +kernel
theorem dX8_setStock_50 : decode cX8_setStock 50 = .ok (.getfield 10, 3) := by decide +kernel
theorem dX8_setStock_53 : decode cX8_setStock 53 = .ok (.iload_n 1, 1) := by decide +kernel
theorem dX8_setStock_54 : decode cX8_setStock 54 = .ok (.putfield 84, 3) := by decide +kernel
theorem dX8_setStock_57 : decode cX8_setStock 57 = .ok (.iload_n 2, 1) := by decide +kernel
theorem dX8_setStock_58 : decode cX8_setStock 58 = .ok (.ireturn, 1) := by decide +kernel
theorem dX8_setWind_0 : decode cX8_setWind 0 = .ok (.iload_n 1, 1) := by decide +kernel
theorem dX8_setWind_1 : decode cX8_setWind 1 = .ok (.bipush 10, 2) := by decide +kernel
theorem dX8_setWind_3 : decode cX8_setWind 3 = .ok (.invokestatic 49, 3) := by decide +kernel
theorem dX8_setWind_6 : decode cX8_setWind 6 = .ok (.ifCond .eq 11, 3) := by decide +kernel
theorem dX8_setWind_9 : decode cX8_setWind 9 = .ok (.iload_n 2, 1) := by decide +kernel
theorem dX8_setWind_10 : decode cX8_setWind 10 = .ok (.iconst 2, 1) := by decide +kernel
theorem dX8_setWind_11 : decode cX8_setWind 11 = .ok (.invokestatic 49, 3) := by decide +kernel
theorem dX8_setWind_14 : decode cX8_setWind 14 = .ok (.ifCond .ne 6, 3) := by decide +kernel
theorem dX8_setWind_17 : decode cX8_setWind 17 = .ok (.bipush (-2), 2) := by decide +kernel
theorem dX8_setWind_19 : decode cX8_setWind 19 = .ok (.ireturn, 1) := by decide +kernel
theorem dX8_setWind_20 : decode cX8_setWind 20 = .ok (.aload_n 0, 1) := by decide +kernel
theorem dX8_setWind_21 : decode cX8_setWind 21 = .ok (.invokevirtual 53, 3) := by decide +kernel
theorem dX8_setWind_24 : decode cX8_setWind 24 = .ok (.aload_n 0, 1) := by decide +kernel
theorem dX8_setWind_25 : decode cX8_setWind 25 = .ok (.getfield 10, 3) := by decide +kernel
theorem dX8_setWind_28 : decode cX8_setWind 28 = .ok (.getfield 88, 3) := by decide +kernel
theorem dX8_setWind_31 : decode cX8_setWind 31 = .ok (.istore_n 3, 1) := by decide +kernel
theorem dX8_setWind_32 : decode cX8_setWind 32 = .ok (.aload_n 0, 1) := by decide +kernel
theorem dX8_setWind_33 : decode cX8_setWind 33 = .ok (.getfield 10, 3) := by decide +kernel
theorem dX8_setWind_36 : decode cX8_setWind 36 = .ok (.iload_n 1, 1) := by decide +kernel
theorem dX8_setWind_37 : decode cX8_setWind 37 = .ok (.putfield 88, 3) := by decide +kernel
theorem dX8_setWind_40 : decode cX8_setWind 40 = .ok (.aload_n 0, 1) := by decide +kernel
theorem dX8_setWind_41 : decode cX8_setWind 41 = .ok (.getfield 10, 3) := by decide +kernel
theorem dX8_setWind_44 : decode cX8_setWind 44 = .ok (.iload_n 2, 1) := by decide +kernel
theorem dX8_setWind_45 : decode cX8_setWind 45 = .ok (.putfield 91, 3) := by decide +kernel
theorem dX8_setWind_48 : decode cX8_setWind 48 = .ok (.iload_n 3, 1) := by decide +kernel
theorem dX8_setWind_49 : decode cX8_setWind 49 = .ok (.ireturn, 1) := by decide +kernel
theorem dX8_flag_0 : decode cX8_flag 0 = .ok (.iload_n 1, 1) := by decide +kernel
theorem dX8_flag_1 : decode cX8_flag 1 = .ok (.bipush 10, 2) := by decide +kernel
theorem dX8_flag_3 : decode cX8_flag 3 = .ok (.invokestatic 49, 3) := by decide +kernel
theorem dX8_flag_6 : decode cX8_flag 6 = .ok (.ifCond .ne 5, 3) := by decide +kernel
theorem dX8_flag_9 : decode cX8_flag 9 = .ok (.iconst (-1), 1) := by decide +kernel
theorem dX8_flag_10 : decode cX8_flag 10 = .ok (.ireturn, 1) := by decide +kernel
theorem dX8_flag_11 : decode cX8_flag 11 = .ok (.iload_n 2, 1) := by decide +kernel
theorem dX8_flag_12 : decode cX8_flag 12 = .ok (.tableswitch 125 0 4 #[36, 48, 60, 72, 92], 36) := by decide +kernel
theorem dX8_flag_48 : decode cX8_flag 48 = .ok (.aload_n 0, 1) := by decide +kernel
theorem dX8_flag_49 : decode cX8_flag 49 = .ok (.getfield 10, 3) := by decide +kernel
theorem dX8_flag_52 : decode cX8_flag 52 = .ok (.getfield 56, 3) := by decide +kernel
theorem dX8_flag_55 : decode cX8_flag 55 = .ok (.iload_n 1, 1) := by decide +kernel
theorem dX8_flag_56 : decode cX8_flag 56 = .ok (.invokevirtual 94, 3) := by decide +kernel
theorem dX8_flag_59 : decode cX8_flag 59 = .ok (.ireturn, 1) := by decide +kernel
theorem dX8_flag_60 : decode cX8_flag 60 = .ok (.aload_n 0, 1) := by decide +kernel
theorem dX8_flag_61 : decode cX8_flag 61 = .ok (.getfield 10, 3) := by decide +kernel
theorem dX8_flag_64 : decode cX8_flag 64 = .ok (.getfield 56, 3) := by decide +kernel
theorem dX8_flag_67 : decode cX8_flag 67 = .ok (.iload_n 1, 1) := by decide +kernel
theorem dX8_flag_68 : decode cX8_flag 68 = .ok (.invokevirtual 98, 3) := by decide +kernel
theorem dX8_flag_71 : decode cX8_flag 71 = .ok (.ireturn, 1) := by decide +kernel
theorem dX8_flag_72 : decode cX8_flag 72 = .ok (.aload_n 0, 1) := by decide +kernel
theorem dX8_flag_73 : decode cX8_flag 73 = .ok (.getfield 10, 3) := by decide +kernel
theorem dX8_flag_76 : decode cX8_flag 76 = .ok (.getfield 56, 3) := by decide +kernel
theorem dX8_flag_79 : decode cX8_flag 79 = .ok (.iload_n 1, 1) := by decide +kernel
theorem dX8_flag_80 : decode cX8_flag 80 = .ok (.invokevirtual 101, 3) := by decide +kernel
theorem dX8_flag_83 : decode cX8_flag 83 = .ok (.ireturn, 1) := by decide +kernel
theorem dX8_flag_84 : decode cX8_flag 84 = .ok (.aload_n 0, 1) := by decide +kernel
theorem dX8_flag_85 : decode cX8_flag 85 = .ok (.getfield 10, 3) := by decide +kernel
theorem dX8_flag_88 : decode cX8_flag 88 = .ok (.getfield 84, 3) := by decide +kernel
theorem dX8_flag_91 : decode cX8_flag 91 = .ok (.aload_n 0, 1) := by decide +kernel
theorem dX8_flag_92 : decode cX8_flag 92 = .ok (.getfield 10, 3) := by decide +kernel
theorem dX8_flag_95 : decode cX8_flag 95 = .ok (.getfield 70, 3) := by decide +kernel
theorem dX8_flag_98 : decode cX8_flag 98 = .ok (.iload_n 1, 1) := by decide +kernel
theorem dX8_flag_99 : decode cX8_flag 99 = .ok (.invokevirtual 104, 3) := by decide +kernel
theorem dX8_flag_102 : decode cX8_flag 102 = .ok (.isub, 1) := by decide +kernel
theorem dX8_flag_103 : decode cX8_flag 103 = .ok (.ireturn, 1) := by decide +kernel
theorem dX8_flag_104 : decode cX8_flag 104 = .ok (.aload_n 0, 1) := by decide +kernel
theorem dX8_flag_105 : decode cX8_flag 105 = .ok (.getfield 10, 3) := by decide +kernel
theorem dX8_flag_108 : decode cX8_flag 108 = .ok (.getfield 56, 3) := by decide +kernel
theorem dX8_flag_111 : decode cX8_flag 111 = .ok (.aload_n 0, 1) := by decide +kernel
theorem dX8_flag_112 : decode cX8_flag 112 = .ok (.getfield 10, 3) := by decide +kernel
theorem dX8_flag_115 : decode cX8_flag 115 = .ok (.getfield 56, 3) := by decide +kernel
theorem dX8_flag_118 : decode cX8_flag 118 = .ok (.iload_n 1, 1) := by decide +kernel
theorem dX8_flag_119 : decode cX8_flag 119 = .ok (.invokevirtual 98, 3) := by decide +kernel
theorem dX8_flag_122 : decode cX8_flag 122 = .ok (.aload_n 0, 1) := by decide +kernel
theorem dX8_flag_123 : decode cX8_flag 123 = .ok (.getfield 10, 3) := by decide +kernel
theorem dX8_flag_126 : decode cX8_flag 126 = .ok (.getfield 56, 3) := by decide +kernel
theorem dX8_flag_129 : decode cX8_flag 129 = .ok (.iload_n 1, 1) := by decide +kernel
theorem dX8_flag_130 : decode cX8_flag 130 = .ok (.invokevirtual 94, 3) := by decide +kernel
theorem dX8_flag_133 : decode cX8_flag 133 = .ok (.invokevirtual 107, 3) := by decide +kernel
theorem dX8_flag_136 : decode cX8_flag 136 = .ok (.ireturn, 1) := by decide +kernel
theorem dX8_flag_137 : decode cX8_flag 137 = .ok (.bipush (-2), 2) := by decide +kernel
theorem dX8_flag_139 : decode cX8_flag 139 = .ok (.ireturn, 1) := by decide +kernel
theorem dX8_bend_0 : decode cX8_bend 0 = .ok (.iload_n 1, 1) := by decide +kernel
theorem dX8_bend_1 : decode cX8_bend 1 = .ok (.iconst 5, 1) := by decide +kernel
theorem dX8_bend_2 : decode cX8_bend 2 = .ok (.invokestatic 49, 3) := by decide +kernel
theorem dX8_bend_5 : decode cX8_bend 5 = .ok (.ifCond .eq 10, 3) := by decide +kernel
theorem dX8_bend_8 : decode cX8_bend 8 = .ok (.iload_n 2, 1) := by decide +kernel
theorem dX8_bend_9 : decode cX8_bend 9 = .ok (.invokestatic 110, 3) := by decide +kernel
theorem dX8_bend_12 : decode cX8_bend 12 = .ok (.ifCond .ne 5, 3) := by decide +kernel
theorem dX8_bend_15 : decode cX8_bend 15 = .ok (.iconst (-1), 1) := by decide +kernel
theorem dX8_bend_16 : decode cX8_bend 16 = .ok (.ireturn, 1) := by decide +kernel
theorem dX8_bend_17 : decode cX8_bend 17 = .ok (.aload_n 0, 1) := by decide +kernel
theorem dX8_bend_18 : decode cX8_bend 18 = .ok (.getfield 10, 3) := by decide +kernel
theorem dX8_bend_21 : decode cX8_bend 21 = .ok (.getfield 70, 3) := by decide +kernel
theorem dX8_bend_24 : decode cX8_bend 24 = .ok (.iload_n 1, 1) := by decide +kernel
theorem dX8_bend_25 : decode cX8_bend 25 = .ok (.invokevirtual 114, 3) := by decide +kernel
theorem dX8_bend_28 : decode cX8_bend 28 = .ok (.istore_n 3, 1) := by decide +kernel
theorem dX8_bend_29 : decode cX8_bend 29 = .ok (.iload_n 2, 1) := by decide +kernel
theorem dX8_bend_30 : decode cX8_bend 30 = .ok (.bipush 10, 2) := by decide +kernel
theorem dX8_bend_32 : decode cX8_bend 32 = .ok (.if_icmp .le 14, 3) := by decide +kernel
theorem dX8_bend_35 : decode cX8_bend 35 = .ok (.iload_n 2, 1) := by decide +kernel
theorem dX8_bend_36 : decode cX8_bend 36 = .ok (.bipush 10, 2) := by decide +kernel
theorem dX8_bend_38 : decode cX8_bend 38 = .ok (.isub, 1) := by decide +kernel
theorem dX8_bend_39 : decode cX8_bend 39 = .ok (.iload_n 3, 1) := by decide +kernel
theorem dX8_bend_40 : decode cX8_bend 40 = .ok (.if_icmp .le 6, 3) := by decide +kernel
theorem dX8_bend_43 : decode cX8_bend 43 = .ok (.bipush (-3), 2) := by decide +kernel
theorem dX8_bend_45 : decode cX8_bend 45 = .ok (.ireturn, 1) := by decide +kernel
theorem dX8_bend_46 : decode cX8_bend 46 = .ok (.iload_n 3, 1) := by decide +kernel
theorem dX8_bend_47 : decode cX8_bend 47 = .ok (.iconst 4, 1) := by decide +kernel
theorem dX8_bend_48 : decode cX8_bend 48 = .ok (.if_icmp .ge 24, 3) := by decide +kernel
theorem dX8_bend_51 : decode cX8_bend 51 = .ok (.aload_n 0, 1) := by decide +kernel
theorem dX8_bend_52 : decode cX8_bend 52 = .ok (.getfield 10, 3) := by decide +kernel
theorem dX8_bend_55 : decode cX8_bend 55 = .ok (.getfield 70, 3) := by decide +kernel
theorem dX8_bend_58 : decode cX8_bend 58 = .ok (.iload_n 2, 1) := by decide +kernel
theorem dX8_bend_59 : decode cX8_bend 59 = .ok (.invokevirtual 104, 3) := by decide +kernel
theorem dX8_bend_62 : decode cX8_bend 62 = .ok (.aload_n 0, 1) := by decide +kernel
theorem dX8_bend_63 : decode cX8_bend 63 = .ok (.getfield 10, 3) := by decide +kernel
theorem dX8_bend_66 : decode cX8_bend 66 = .ok (.getfield 84, 3) := by decide +kernel
theorem dX8_bend_69 : decode cX8_bend 69 = .ok (.if_icmp .lt 6, 3) := by decide +kernel
theorem dX8_bend_72 : decode cX8_bend 72 = .ok (.bipush (-4), 2) := by decide +kernel
theorem dX8_bend_74 : decode cX8_bend 74 = .ok (.ireturn, 1) := by decide +kernel
theorem dX8_bend_75 : decode cX8_bend 75 = .ok (.aload_n 0, 1) := by decide +kernel
theorem dX8_bend_76 : decode cX8_bend 76 = .ok (.invokevirtual 53, 3) := by decide +kernel
theorem dX8_bend_79 : decode cX8_bend 79 = .ok (.aload_n 0, 1) := by decide +kernel
theorem dX8_bend_80 : decode cX8_bend 80 = .ok (.getfield 10, 3) := by decide +kernel
theorem dX8_bend_83 : decode cX8_bend 83 = .ok (.getfield 70, 3) := by decide +kernel
theorem dX8_bend_86 : decode cX8_bend 86 = .ok (.iload_n 1, 1) := by decide +kernel
theorem dX8_bend_87 : decode cX8_bend 87 = .ok (.iload_n 2, 1) := by decide +kernel
theorem dX8_bend_88 : decode cX8_bend 88 = .ok (.invokevirtual 117, 3) := by decide +kernel
theorem dX8_bend_91 : decode cX8_bend 91 = .ok (.iload_n 3, 1) := by decide +kernel
theorem dX8_bend_92 : decode cX8_bend 92 = .ok (.iconst 1, 1) := by decide +kernel
theorem dX8_bend_93 : decode cX8_bend 93 = .ok (.iadd, 1) := by decide +kernel
theorem dX8_bend_94 : decode cX8_bend 94 = .ok (.ireturn, 1) := by decide +kernel
theorem dX8_unbend_0 : decode cX8_unbend 0 = .ok (.iload_n 1, 1) := by decide +kernel
theorem dX8_unbend_1 : decode cX8_unbend 1 = .ok (.iconst 5, 1) := by decide +kernel
theorem dX8_unbend_2 : decode cX8_unbend 2 = .ok (.invokestatic 49, 3) := by decide +kernel
theorem dX8_unbend_5 : decode cX8_unbend 5 = .ok (.ifCond .ne 5, 3) := by decide +kernel
theorem dX8_unbend_8 : decode cX8_unbend 8 = .ok (.iconst (-1), 1) := by decide +kernel
theorem dX8_unbend_9 : decode cX8_unbend 9 = .ok (.ireturn, 1) := by decide +kernel
theorem dX8_unbend_10 : decode cX8_unbend 10 = .ok (.aload_n 0, 1) := by decide +kernel
theorem dX8_unbend_11 : decode cX8_unbend 11 = .ok (.getfield 10, 3) := by decide +kernel
theorem dX8_unbend_14 : decode cX8_unbend 14 = .ok (.getfield 70, 3) := by decide +kernel
theorem dX8_unbend_17 : decode cX8_unbend 17 = .ok (.iload_n 1, 1) := by decide +kernel
theorem dX8_unbend_18 : decode cX8_unbend 18 = .ok (.invokevirtual 114, 3) := by decide +kernel
theorem dX8_unbend_21 : decode cX8_unbend 21 = .ok (.ifCond .ne 6, 3) := by decide +kernel
theorem dX8_unbend_24 : decode cX8_unbend 24 = .ok (.bipush (-3), 2) := by decide +kernel
theorem dX8_unbend_26 : decode cX8_unbend 26 = .ok (.ireturn, 1) := by decide +kernel
theorem dX8_unbend_27 : decode cX8_unbend 27 = .ok (.aload_n 0, 1) := by decide +kernel
theorem dX8_unbend_28 : decode cX8_unbend 28 = .ok (.invokevirtual 53, 3) := by decide +kernel
theorem dX8_unbend_31 : decode cX8_unbend 31 = .ok (.aload_n 0, 1) := by decide +kernel
theorem dX8_unbend_32 : decode cX8_unbend 32 = .ok (.getfield 10, 3) := by decide +kernel
theorem dX8_unbend_35 : decode cX8_unbend 35 = .ok (.getfield 70, 3) := by decide +kernel
theorem dX8_unbend_38 : decode cX8_unbend 38 = .ok (.iload_n 1, 1) := by decide +kernel
theorem dX8_unbend_39 : decode cX8_unbend 39 = .ok (.invokevirtual 121, 3) := by decide +kernel
theorem dX8_unbend_42 : decode cX8_unbend 42 = .ok (.ireturn, 1) := by decide +kernel
theorem dX8_exchange_0 : decode cX8_exchange 0 = .ok (.iload_n 1, 1) := by decide +kernel
theorem dX8_exchange_1 : decode cX8_exchange 1 = .ok (.iconst 5, 1) := by decide +kernel
theorem dX8_exchange_2 : decode cX8_exchange 2 = .ok (.invokestatic 49, 3) := by decide +kernel
theorem dX8_exchange_5 : decode cX8_exchange 5 = .ok (.ifCond .eq 11, 3) := by decide +kernel
theorem dX8_exchange_8 : decode cX8_exchange 8 = .ok (.iload_n 2, 1) := by decide +kernel
theorem dX8_exchange_9 : decode cX8_exchange 9 = .ok (.iconst 5, 1) := by decide +kernel
theorem dX8_exchange_10 : decode cX8_exchange 10 = .ok (.invokestatic 49, 3) := by decide +kernel
theorem dX8_exchange_13 : decode cX8_exchange 13 = .ok (.ifCond .ne 5, 3) := by decide +kernel
theorem dX8_exchange_16 : decode cX8_exchange 16 = .ok (.iconst (-1), 1) := by decide +kernel
theorem dX8_exchange_17 : decode cX8_exchange 17 = .ok (.ireturn, 1) := by decide +kernel
theorem dX8_exchange_18 : decode cX8_exchange 18 = .ok (.iload_n 1, 1) := by decide +kernel
theorem dX8_exchange_19 : decode cX8_exchange 19 = .ok (.iload_n 2, 1) := by decide +kernel
theorem dX8_exchange_20 : decode cX8_exchange 20 = .ok (.if_icmp .ne 6, 3) := by decide +kernel
theorem dX8_exchange_23 : decode cX8_exchange 23 = .ok (.bipush (-2), 2) := by decide +kernel
theorem dX8_exchange_25 : decode cX8_exchange 25 = .ok (.ireturn, 1) := by decide +kernel
theorem dX8_exchange_26 : decode cX8_exchange 26 = .ok (.aload_n 0, 1) := by decide +kernel
theorem dX8_exchange_27 : decode cX8_exchange 27 = .ok (.invokevirtual 53, 3) := by decide +kernel
theorem dX8_exchange_30 : decode cX8_exchange 30 = .ok (.aload_n 0, 1) := by decide +kernel
theorem dX8_exchange_31 : decode cX8_exchange 31 = .ok (.getfield 10, 3) := by decide +kernel
theorem dX8_exchange_34 : decode cX8_exchange 34 = .ok (.getfield 70, 3) := by decide +kernel
theorem dX8_exchange_37 : decode cX8_exchange 37 = .ok (.iload_n 1, 1) := by decide +kernel
theorem dX8_exchange_38 : decode cX8_exchange 38 = .ok (.iload_n 2, 1) := by decide +kernel
theorem dX8_exchange_39 : decode cX8_exchange 39 = .ok (.invokevirtual 124, 3) := by decide +kernel
theorem dX8_exchange_42 : decode cX8_exchange 42 = .ok (.aload_n 0, 1) := by decide +kernel
theorem dX8_exchange_43 : decode cX8_exchange 43 = .ok (.getfield 10, 3) := by decide +kernel
theorem dX8_exchange_46 : decode cX8_exchange 46 = .ok (.getfield 70, 3) := by decide +kernel
theorem dX8_exchange_49 : decode cX8_exchange 49 = .ok (.iload_n 1, 1) := by decide +kernel
theorem dX8_exchange_50 : decode cX8_exchange 50 = .ok (.invokevirtual 114, 3) := by decide +kernel
theorem dX8_exchange_53 : decode cX8_exchange 53 = .ok (.aload_n 0, 1) := by decide +kernel
theorem dX8_exchange_54 : decode cX8_exchange 54 = .ok (.getfield 10, 3) := by decide +kernel
theorem dX8_exchange_57 : decode cX8_exchange 57 = .ok (.getfield 70, 3) := by decide +kernel
theorem dX8_exchange_60 : decode cX8_exchange 60 = .ok (.iload_n 2, 1) := by decide +kernel
theorem dX8_exchange_61 : decode cX8_exchange 61 = .ok (.invokevirtual 114, 3) := by decide +kernel
theorem dX8_exchange_64 : decode cX8_exchange 64 = .ok (.iadd, 1) := by decide +kernel
theorem dX8_exchange_65 : decode cX8_exchange 65 = .ok (.ireturn, 1) := by decide +kernel
theorem dX8_lower_0 : decode cX8_lower 0 = .ok (.aload_n 0, 1) := by decide +kernel
theorem dX8_lower_1 : decode cX8_lower 1 = .ok (.getfield 10, 3) := by decide +kernel
theorem dX8_lower_4 : decode cX8_lower 4 = .ok (.getfield 127, 3) := by decide +kernel
theorem dX8_lower_7 : decode cX8_lower 7 = .ok (.iconst 2, 1) := by decide +kernel
theorem dX8_lower_8 : decode cX8_lower 8 = .ok (.if_icmp .ne 7, 3) := by decide +kernel
theorem dX8_lower_11 : decode cX8_lower 11 = .ok (.iconst 1, 1) := by decide +kernel
theorem dX8_lower_12 : decode cX8_lower 12 = .ok (.goto 4, 3) := by decide +kernel
theorem dX8_lower_15 : decode cX8_lower 15 = .ok (.iconst 0, 1) := by decide +kernel
theorem dX8_lower_16 : decode cX8_lower 16 = .ok (.istore_n 1, 1) := by decide +kernel
theorem dX8_lower_17 : decode cX8_lower 17 = .ok (.aload_n 0, 1) := by decide +kernel
theorem dX8_lower_18 : decode cX8_lower 18 = .ok (.invokevirtual 53, 3) := by decide +kernel
theorem dX8_lower_21 : decode cX8_lower 21 = .ok (.iconst 0, 1) := by decide +kernel
theorem dX8_lower_22 : decode cX8_lower 22 = .ok (.istore_n 2, 1) := by decide +kernel
theorem dX8_lower_23 : decode cX8_lower 23 = .ok (.iload_n 1, 1) := by decide +kernel
theorem dX8_lower_24 : decode cX8_lower 24 = .ok (.ifCond .eq 35, 3) := by decide +kernel
theorem dX8_lower_27 : decode cX8_lower 27 = .ok (.aload_n 0, 1) := by decide +kernel
theorem dX8_lower_28 : decode cX8_lower 28 = .ok (.aload_n 0, 1) := by decide +kernel
theorem dX8_lower_29 : decode cX8_lower 29 = .ok (.getfield 10, 3) := by decide +kernel
theorem dX8_lower_32 : decode cX8_lower 32 = .ok (.getfield 130, 3) := by decide +kernel
theorem dX8_lower_35 : decode cX8_lower 35 = .ok (.invokevirtual 133, 3) := by decide +kernel
theorem dX8_lower_38 : decode cX8_lower 38 = .ok (.astore_n 3, 1) := by decide +kernel
theorem dX8_lower_39 : decode cX8_lower 39 = .ok (.aload_n 3, 1) := by decide +kernel
theorem dX8_lower_40 : decode cX8_lower 40 = .ok (.invokevirtual 137, 3) := by decide +kernel
theorem dX8_lower_43 : decode cX8_lower 43 = .ok (.istore_n 2, 1) := by decide +kernel
theorem dX8_lower_44 : decode cX8_lower 44 = .ok (.aload_n 0, 1) := by decide +kernel
theorem dX8_lower_45 : decode cX8_lower 45 = .ok (.getfield 10, 3) := by decide +kernel
theorem dX8_lower_48 : decode cX8_lower 48 = .ok (.getfield 140, 3) := by decide +kernel
theorem dX8_lower_51 : decode cX8_lower 51 = .ok (.aload_n 3, 1) := by decide +kernel
theorem dX8_lower_52 : decode cX8_lower 52 = .ok (.getfield 144, 3) := by decide +kernel
theorem dX8_lower_55 : decode cX8_lower 55 = .ok (.iload_n 2, 1) := by decide +kernel
theorem dX8_lower_56 : decode cX8_lower 56 = .ok (.invokevirtual 148, 3) := by decide +kernel
theorem dX8_lower_59 : decode cX8_lower 59 = .ok (.aload_n 0, 1) := by decide +kernel
theorem dX8_lower_60 : decode cX8_lower 60 = .ok (.getfield 10, 3) := by decide +kernel
theorem dX8_lower_63 : decode cX8_lower 63 = .ok (.getfield 70, 3) := by decide +kernel
theorem dX8_lower_66 : decode cX8_lower 66 = .ok (.invokevirtual 153, 3) := by decide +kernel
theorem dX8_lower_69 : decode cX8_lower 69 = .ok (.iload_n 2, 1) := by decide +kernel
theorem dX8_lower_70 : decode cX8_lower 70 = .ok (.ireturn, 1) := by decide +kernel
theorem dX8_sign_0 : decode cX8_sign 0 = .ok (.aload_n 0, 1) := by decide +kernel
theorem dX8_sign_1 : decode cX8_sign 1 = .ok (.getfield 10, 3) := by decide +kernel
theorem dX8_sign_4 : decode cX8_sign 4 = .ok (.getfield 70, 3) := by decide +kernel
theorem dX8_sign_7 : decode cX8_sign 7 = .ok (.iload_n 1, 1) := by decide +kernel
theorem dX8_sign_8 : decode cX8_sign 8 = .ok (.iload_n 2, 1) := by decide +kernel
theorem dX8_sign_9 : decode cX8_sign 9 = .ok (.invokevirtual 156, 3) := by decide +kernel
theorem dX8_sign_12 : decode cX8_sign 12 = .ok (.ifCond .ne 5, 3) := by decide +kernel
theorem dX8_sign_15 : decode cX8_sign 15 = .ok (.iconst (-1), 1) := by decide +kernel
theorem dX8_sign_16 : decode cX8_sign 16 = .ok (.ireturn, 1) := by decide +kernel
theorem dX8_sign_17 : decode cX8_sign 17 = .ok (.iload_n 3, 1) := by decide +kernel
theorem dX8_sign_18 : decode cX8_sign 18 = .ok (.tableswitch 90 0 2 #[26, 39, 52], 26) := by decide +kernel
theorem dX8_sign_44 : decode cX8_sign 44 = .ok (.aload_n 0, 1) := by decide +kernel
theorem dX8_sign_45 : decode cX8_sign 45 = .ok (.getfield 10, 3) := by decide +kernel
theorem dX8_sign_48 : decode cX8_sign 48 = .ok (.getfield 70, 3) := by decide +kernel
theorem dX8_sign_51 : decode cX8_sign 51 = .ok (.iload_n 1, 1) := by decide +kernel
theorem dX8_sign_52 : decode cX8_sign 52 = .ok (.iload_n 2, 1) := by decide +kernel
theorem dX8_sign_53 : decode cX8_sign 53 = .ok (.invokevirtual 159, 3) := by decide +kernel
theorem dX8_sign_56 : decode cX8_sign 56 = .ok (.ireturn, 1) := by decide +kernel
theorem dX8_sign_57 : decode cX8_sign 57 = .ok (.aload_n 0, 1) := by decide +kernel
theorem dX8_sign_58 : decode cX8_sign 58 = .ok (.getfield 10, 3) := by decide +kernel
theorem dX8_sign_61 : decode cX8_sign 61 = .ok (.getfield 70, 3) := by decide +kernel
theorem dX8_sign_64 : decode cX8_sign 64 = .ok (.iload_n 1, 1) := by decide +kernel
theorem dX8_sign_65 : decode cX8_sign 65 = .ok (.iload_n 2, 1) := by decide +kernel
theorem dX8_sign_66 : decode cX8_sign 66 = .ok (.invokevirtual 162, 3) := by decide +kernel
theorem dX8_sign_69 : decode cX8_sign 69 = .ok (.ireturn, 1) := by decide +kernel
theorem dX8_sign_70 : decode cX8_sign 70 = .ok (.aload_n 0, 1) := by decide +kernel
theorem dX8_sign_71 : decode cX8_sign 71 = .ok (.getfield 10, 3) := by decide +kernel
theorem dX8_sign_74 : decode cX8_sign 74 = .ok (.getfield 56, 3) := by decide +kernel
theorem dX8_sign_77 : decode cX8_sign 77 = .ok (.aload_n 0, 1) := by decide +kernel
theorem dX8_sign_78 : decode cX8_sign 78 = .ok (.getfield 10, 3) := by decide +kernel
theorem dX8_sign_81 : decode cX8_sign 81 = .ok (.getfield 70, 3) := by decide +kernel
theorem dX8_sign_84 : decode cX8_sign 84 = .ok (.iload_n 1, 1) := by decide +kernel
theorem dX8_sign_85 : decode cX8_sign 85 = .ok (.iload_n 2, 1) := by decide +kernel
theorem dX8_sign_86 : decode cX8_sign 86 = .ok (.invokevirtual 162, 3) := by decide +kernel
theorem dX8_sign_89 : decode cX8_sign 89 = .ok (.invokevirtual 101, 3) := by decide +kernel
theorem dX8_sign_92 : decode cX8_sign 92 = .ok (.aload_n 0, 1) := by decide +kernel
theorem dX8_sign_93 : decode cX8_sign 93 = .ok (.getfield 10, 3) := by decide +kernel
theorem dX8_sign_96 : decode cX8_sign 96 = .ok (.getfield 88, 3) := by decide +kernel
theorem dX8_sign_99 : decode cX8_sign 99 = .ok (.if_icmp .le 7, 3) := by decide +kernel
theorem dX8_sign_102 : decode cX8_sign 102 = .ok (.iconst 1, 1) := by decide +kernel
theorem dX8_sign_103 : decode cX8_sign 103 = .ok (.goto 4, 3) := by decide +kernel
theorem dX8_sign_106 : decode cX8_sign 106 = .ok (.iconst 0, 1) := by decide +kernel
theorem dX8_sign_107 : decode cX8_sign 107 = .ok (.ireturn, 1) := by decide +kernel
theorem dX8_sign_108 : decode cX8_sign 108 = .ok (.bipush (-2), 2) := by decide +kernel
theorem dX8_sign_110 : decode cX8_sign 110 = .ok (.ireturn, 1) := by decide +kernel
theorem dX8_enter_0 : decode cX8_enter 0 = .ok (.iload_n 1, 1) := by decide +kernel
theorem dX8_enter_1 : decode cX8_enter 1 = .ok (.invokestatic 165, 3) := by decide +kernel
theorem dX8_enter_4 : decode cX8_enter 4 = .ok (.ifCond .eq 12, 3) := by decide +kernel
theorem dX8_enter_7 : decode cX8_enter 7 = .ok (.iload_n 2, 1) := by decide +kernel
theorem dX8_enter_8 : decode cX8_enter 8 = .ok (.bipush 100, 2) := by decide +kernel
theorem dX8_enter_10 : decode cX8_enter 10 = .ok (.invokestatic 49, 3) := by decide +kernel
theorem dX8_enter_13 : decode cX8_enter 13 = .ok (.ifCond .ne 6, 3) := by decide +kernel
theorem dX8_enter_16 : decode cX8_enter 16 = .ok (.bipush (-2), 2) := by decide +kernel
theorem dX8_enter_18 : decode cX8_enter 18 = .ok (.ireturn, 1) := by decide +kernel
theorem dX8_enter_19 : decode cX8_enter 19 = .ok (.aload_n 0, 1) := by decide +kernel
theorem dX8_enter_20 : decode cX8_enter 20 = .ok (.getfield 10, 3) := by decide +kernel
theorem dX8_enter_23 : decode cX8_enter 23 = .ok (.getfield 168, 3) := by decide +kernel
theorem dX8_enter_26 : decode cX8_enter 26 = .ok (.invokevirtual 172, 3) := by decide +kernel
theorem dX8_enter_29 : decode cX8_enter 29 = .ok (.bipush 12, 2) := by decide +kernel
theorem dX8_enter_31 : decode cX8_enter 31 = .ok (.if_icmp .lt 6, 3) := by decide +kernel
theorem dX8_enter_34 : decode cX8_enter 34 = .ok (.bipush (-4), 2) := by decide +kernel
theorem dX8_enter_36 : decode cX8_enter 36 = .ok (.ireturn, 1) := by decide +kernel
theorem dX8_enter_37 : decode cX8_enter 37 = .ok (.aload_n 0, 1) := by decide +kernel
theorem dX8_enter_38 : decode cX8_enter 38 = .ok (.invokevirtual 53, 3) := by decide +kernel
theorem dX8_enter_41 : decode cX8_enter 41 = .ok (.aload_n 0, 1) := by decide +kernel
theorem dX8_enter_42 : decode cX8_enter 42 = .ok (.getfield 10, 3) := by decide +kernel
theorem dX8_enter_45 : decode cX8_enter 45 = .ok (.getfield 168, 3) := by decide +kernel
theorem dX8_enter_48 : decode cX8_enter 48 = .ok (.iload_n 1, 1) := by decide +kernel
theorem dX8_enter_49 : decode cX8_enter 49 = .ok (.iload_n 2, 1) := by decide +kernel
theorem dX8_enter_50 : decode cX8_enter 50 = .ok (.invokevirtual 175, 3) := by decide +kernel
theorem dX8_enter_53 : decode cX8_enter 53 = .ok (.aload_n 0, 1) := by decide +kernel
theorem dX8_enter_54 : decode cX8_enter 54 = .ok (.getfield 10, 3) := by decide +kernel
theorem dX8_enter_57 : decode cX8_enter 57 = .ok (.getfield 168, 3) := by decide +kernel
theorem dX8_enter_60 : decode cX8_enter 60 = .ok (.invokevirtual 172, 3) := by decide +kernel
theorem dX8_enter_63 : decode cX8_enter 63 = .ok (.ireturn, 1) := by decide +kernel
theorem dX8_strike_0 : decode cX8_strike 0 = .ok (.iload_n 1, 1) := by decide +kernel
theorem dX8_strike_1 : decode cX8_strike 1 = .ok (.aload_n 0, 1) := by decide +kernel
theorem dX8_strike_2 : decode cX8_strike 2 = .ok (.getfield 10, 3) := by decide +kernel
theorem dX8_strike_5 : decode cX8_strike 5 = .ok (.getfield 168, 3) := by decide +kernel
theorem dX8_strike_8 : decode cX8_strike 8 = .ok (.invokevirtual 172, 3) := by decide +kernel
theorem dX8_strike_11 : decode cX8_strike 11 = .ok (.invokestatic 49, 3) := by decide +kernel
theorem dX8_strike_14 : decode cX8_strike 14 = .ok (.ifCond .ne 5, 3) := by decide +kernel
theorem dX8_strike_17 : decode cX8_strike 17 = .ok (.iconst (-1), 1) := by decide +kernel
theorem dX8_strike_18 : decode cX8_strike 18 = .ok (.ireturn, 1) := by decide +kernel
theorem dX8_strike_19 : decode cX8_strike 19 = .ok (.aload_n 0, 1) := by decide +kernel
theorem dX8_strike_20 : decode cX8_strike 20 = .ok (.invokevirtual 53, 3) := by decide +kernel
theorem dX8_strike_23 : decode cX8_strike 23 = .ok (.aload_n 0, 1) := by decide +kernel
theorem dX8_strike_24 : decode cX8_strike 24 = .ok (.getfield 10, 3) := by decide +kernel
theorem dX8_strike_27 : decode cX8_strike 27 = .ok (.getfield 168, 3) := by decide +kernel
theorem dX8_strike_30 : decode cX8_strike 30 = .ok (.iload_n 1, 1) := by decide +kernel
theorem dX8_strike_31 : decode cX8_strike 31 = .ok (.invokevirtual 176, 3) := by decide +kernel
theorem dX8_strike_34 : decode cX8_strike 34 = .ok (.ireturn, 1) := by decide +kernel
theorem dX8_entry_0 : decode cX8_entry 0 = .ok (.iload_n 1, 1) := by decide +kernel
theorem dX8_entry_1 : decode cX8_entry 1 = .ok (.aload_n 0, 1) := by decide +kernel
theorem dX8_entry_2 : decode cX8_entry 2 = .ok (.getfield 10, 3) := by decide +kernel
theorem dX8_entry_5 : decode cX8_entry 5 = .ok (.getfield 168, 3) := by decide +kernel
theorem dX8_entry_8 : decode cX8_entry 8 = .ok (.invokevirtual 172, 3) := by decide +kernel
theorem dX8_entry_11 : decode cX8_entry 11 = .ok (.invokestatic 49, 3) := by decide +kernel
theorem dX8_entry_14 : decode cX8_entry 14 = .ok (.ifCond .ne 5, 3) := by decide +kernel
theorem dX8_entry_17 : decode cX8_entry 17 = .ok (.iconst (-1), 1) := by decide +kernel
theorem dX8_entry_18 : decode cX8_entry 18 = .ok (.ireturn, 1) := by decide +kernel
theorem dX8_entry_19 : decode cX8_entry 19 = .ok (.iload_n 2, 1) := by decide +kernel
theorem dX8_entry_20 : decode cX8_entry 20 = .ok (.lookupswitch 52 #[(0, 28), (1, 40)], 28) := by decide +kernel
theorem dX8_entry_48 : decode cX8_entry 48 = .ok (.aload_n 0, 1) := by decide +kernel
theorem dX8_entry_49 : decode cX8_entry 49 = .ok (.getfield 10, 3) := by decide +kernel
theorem dX8_entry_52 : decode cX8_entry 52 = .ok (.getfield 168, 3) := by decide +kernel
theorem dX8_entry_55 : decode cX8_entry 55 = .ok (.iload_n 1, 1) := by decide +kernel
theorem dX8_entry_56 : decode cX8_entry 56 = .ok (.invokevirtual 179, 3) := by decide +kernel
theorem dX8_entry_59 : decode cX8_entry 59 = .ok (.ireturn, 1) := by decide +kernel
theorem dX8_entry_60 : decode cX8_entry 60 = .ok (.aload_n 0, 1) := by decide +kernel
theorem dX8_entry_61 : decode cX8_entry 61 = .ok (.getfield 10, 3) := by decide +kernel
theorem dX8_entry_64 : decode cX8_entry 64 = .ok (.getfield 168, 3) := by decide +kernel
theorem dX8_entry_67 : decode cX8_entry 67 = .ok (.iload_n 1, 1) := by decide +kernel
theorem dX8_entry_68 : decode cX8_entry 68 = .ok (.invokevirtual 182, 3) := by decide +kernel
theorem dX8_entry_71 : decode cX8_entry 71 = .ok (.ireturn, 1) := by decide +kernel
theorem dX8_entry_72 : decode cX8_entry 72 = .ok (.bipush (-2), 2) := by decide +kernel
theorem dX8_entry_74 : decode cX8_entry 74 = .ok (.ireturn, 1) := by decide +kernel
theorem dX8_seen_0 : decode cX8_seen 0 = .ok (.iload_n 1, 1) := by decide +kernel
theorem dX8_seen_1 : decode cX8_seen 1 = .ok (.iconst 2, 1) := by decide +kernel
theorem dX8_seen_2 : decode cX8_seen 2 = .ok (.invokestatic 49, 3) := by decide +kernel
theorem dX8_seen_5 : decode cX8_seen 5 = .ok (.ifCond .ne 6, 3) := by decide +kernel
theorem dX8_seen_8 : decode cX8_seen 8 = .ok (.bipush (-2), 2) := by decide +kernel
theorem dX8_seen_10 : decode cX8_seen 10 = .ok (.ireturn, 1) := by decide +kernel
theorem dX8_seen_11 : decode cX8_seen 11 = .ok (.aload_n 0, 1) := by decide +kernel
theorem dX8_seen_12 : decode cX8_seen 12 = .ok (.getfield 10, 3) := by decide +kernel
theorem dX8_seen_15 : decode cX8_seen 15 = .ok (.getfield 70, 3) := by decide +kernel
theorem dX8_seen_18 : decode cX8_seen 18 = .ok (.iload_n 2, 1) := by decide +kernel
theorem dX8_seen_19 : decode cX8_seen 19 = .ok (.iload_n 3, 1) := by decide +kernel
theorem dX8_seen_20 : decode cX8_seen 20 = .ok (.invokevirtual 156, 3) := by decide +kernel
theorem dX8_seen_23 : decode cX8_seen 23 = .ok (.ifCond .ne 5, 3) := by decide +kernel
theorem dX8_seen_26 : decode cX8_seen 26 = .ok (.iconst (-1), 1) := by decide +kernel
theorem dX8_seen_27 : decode cX8_seen 27 = .ok (.ireturn, 1) := by decide +kernel
theorem dX8_seen_28 : decode cX8_seen 28 = .ok (.aload_n 0, 1) := by decide +kernel
theorem dX8_seen_29 : decode cX8_seen 29 = .ok (.getfield 10, 3) := by decide +kernel
theorem dX8_seen_32 : decode cX8_seen 32 = .ok (.getfield 70, 3) := by decide +kernel
theorem dX8_seen_35 : decode cX8_seen 35 = .ok (.iload_n 2, 1) := by decide +kernel
theorem dX8_seen_36 : decode cX8_seen 36 = .ok (.iload_n 3, 1) := by decide +kernel
theorem dX8_seen_37 : decode cX8_seen 37 = .ok (.invokevirtual 162, 3) := by decide +kernel
theorem dX8_seen_40 : decode cX8_seen 40 = .ok (.istore 4, 2) := by decide +kernel
theorem dX8_seen_42 : decode cX8_seen 42 = .ok (.aload_n 0, 1) := by decide +kernel
theorem dX8_seen_43 : decode cX8_seen 43 = .ok (.getfield 10, 3) := by decide +kernel
theorem dX8_seen_46 : decode cX8_seen 46 = .ok (.getfield 56, 3) := by decide +kernel
theorem dX8_seen_49 : decode cX8_seen 49 = .ok (.iload 4, 2) := by decide +kernel
theorem dX8_seen_51 : decode cX8_seen 51 = .ok (.iload_n 1, 1) := by decide +kernel
theorem dX8_seen_52 : decode cX8_seen 52 = .ok (.aload_n 0, 1) := by decide +kernel
theorem dX8_seen_53 : decode cX8_seen 53 = .ok (.getfield 10, 3) := by decide +kernel
theorem dX8_seen_56 : decode cX8_seen 56 = .ok (.getfield 91, 3) := by decide +kernel
theorem dX8_seen_59 : decode cX8_seen 59 = .ok (.invokestatic 185, 3) := by decide +kernel
theorem dX8_seen_62 : decode cX8_seen 62 = .ok (.aload_n 0, 1) := by decide +kernel
theorem dX8_seen_63 : decode cX8_seen 63 = .ok (.getfield 10, 3) := by decide +kernel
theorem dX8_seen_66 : decode cX8_seen 66 = .ok (.getfield 88, 3) := by decide +kernel
theorem dX8_seen_69 : decode cX8_seen 69 = .ok (.invokevirtual 188, 3) := by decide +kernel
theorem dX8_seen_72 : decode cX8_seen 72 = .ok (.ireturn, 1) := by decide +kernel
theorem dX8_word_0 : decode cX8_word 0 = .ok (.iload_n 1, 1) := by decide +kernel
theorem dX8_word_1 : decode cX8_word 1 = .ok (.iconst 2, 1) := by decide +kernel
theorem dX8_word_2 : decode cX8_word 2 = .ok (.invokestatic 49, 3) := by decide +kernel
theorem dX8_word_5 : decode cX8_word 5 = .ok (.ifCond .ne 6, 3) := by decide +kernel
theorem dX8_word_8 : decode cX8_word 8 = .ok (.bipush (-2), 2) := by decide +kernel
theorem dX8_word_10 : decode cX8_word 10 = .ok (.ireturn, 1) := by decide +kernel
theorem dX8_word_11 : decode cX8_word 11 = .ok (.aload_n 0, 1) := by decide +kernel
theorem dX8_word_12 : decode cX8_word 12 = .ok (.iload_n 1, 1) := by decide +kernel
theorem dX8_word_13 : decode cX8_word 13 = .ok (.invokevirtual 133, 3) := by decide +kernel
theorem dX8_word_16 : decode cX8_word 16 = .ok (.astore_n 3, 1) := by decide +kernel
theorem dX8_word_17 : decode cX8_word 17 = .ok (.iload_n 2, 1) := by decide +kernel
theorem dX8_word_18 : decode cX8_word 18 = .ok (.aload_n 3, 1) := by decide +kernel
theorem dX8_word_19 : decode cX8_word 19 = .ok (.invokevirtual 137, 3) := by decide +kernel
theorem dX8_word_22 : decode cX8_word 22 = .ok (.invokestatic 49, 3) := by decide +kernel
theorem dX8_word_25 : decode cX8_word 25 = .ok (.ifCond .eq 11, 3) := by decide +kernel
theorem dX8_word_28 : decode cX8_word 28 = .ok (.aload_n 3, 1) := by decide +kernel
theorem dX8_word_29 : decode cX8_word 29 = .ok (.iload_n 2, 1) := by decide +kernel
theorem dX8_word_30 : decode cX8_word 30 = .ok (.invokevirtual 192, 3) := by decide +kernel
theorem dX8_word_33 : decode cX8_word 33 = .ok (.goto 4, 3) := by decide +kernel
theorem dX8_word_36 : decode cX8_word 36 = .ok (.iconst (-1), 1) := by decide +kernel
theorem dX8_word_37 : decode cX8_word 37 = .ok (.ireturn, 1) := by decide +kernel
theorem dX8_known_0 : decode cX8_known 0 = .ok (.iload_n 1, 1) := by decide +kernel
theorem dX8_known_1 : decode cX8_known 1 = .ok (.iconst 2, 1) := by decide +kernel
theorem dX8_known_2 : decode cX8_known 2 = .ok (.invokestatic 49, 3) := by decide +kernel
theorem dX8_known_5 : decode cX8_known 5 = .ok (.ifCond .ne 6, 3) := by decide +kernel
theorem dX8_known_8 : decode cX8_known 8 = .ok (.bipush (-2), 2) := by decide +kernel
theorem dX8_known_10 : decode cX8_known 10 = .ok (.ireturn, 1) := by decide +kernel
theorem dX8_known_11 : decode cX8_known 11 = .ok (.aload_n 0, 1) := by decide +kernel
theorem dX8_known_12 : decode cX8_known 12 = .ok (.iload_n 1, 1) := by decide +kernel
theorem dX8_known_13 : decode cX8_known 13 = .ok (.invokevirtual 133, 3) := by decide +kernel
theorem dX8_known_16 : decode cX8_known 16 = .ok (.invokevirtual 193, 3) := by decide +kernel
theorem dX8_known_19 : decode cX8_known 19 = .ok (.ireturn, 1) := by decide +kernel
theorem dX8_isSame_0 : decode cX8_isSame 0 = .ok (.aload_n 0, 1) := by decide +kernel
theorem dX8_isSame_1 : decode cX8_isSame 1 = .ok (.iconst 0, 1) := by decide +kernel
theorem dX8_isSame_2 : decode cX8_isSame 2 = .ok (.invokevirtual 133, 3) := by decide +kernel
theorem dX8_isSame_5 : decode cX8_isSame 5 = .ok (.aload_n 0, 1) := by decide +kernel
theorem dX8_isSame_6 : decode cX8_isSame 6 = .ok (.iconst 1, 1) := by decide +kernel
theorem dX8_isSame_7 : decode cX8_isSame 7 = .ok (.invokevirtual 133, 3) := by decide +kernel
theorem dX8_isSame_10 : decode cX8_isSame 10 = .ok (.invokevirtual 196, 3) := by decide +kernel
theorem dX8_isSame_13 : decode cX8_isSame 13 = .ok (.ifCond .eq 7, 3) := by decide +kernel
theorem dX8_isSame_16 : decode cX8_isSame 16 = .ok (.iconst 1, 1) := by decide +kernel
theorem dX8_isSame_17 : decode cX8_isSame 17 = .ok (.goto 4, 3) := by decide +kernel
theorem dX8_isSame_20 : decode cX8_isSame 20 = .ok (.iconst 0, 1) := by decide +kernel
theorem dX8_isSame_21 : decode cX8_isSame 21 = .ok (.ireturn, 1) := by decide +kernel
theorem dX8_sail_0 : decode cX8_sail 0 = .ok (.iload_n 1, 1) := by decide +kernel
theorem dX8_sail_1 : decode cX8_sail 1 = .ok (.iconst 2, 1) := by decide +kernel
theorem dX8_sail_2 : decode cX8_sail 2 = .ok (.invokestatic 49, 3) := by decide +kernel
theorem dX8_sail_5 : decode cX8_sail 5 = .ok (.ifCond .ne 6, 3) := by decide +kernel
theorem dX8_sail_8 : decode cX8_sail 8 = .ok (.bipush (-2), 2) := by decide +kernel
theorem dX8_sail_10 : decode cX8_sail 10 = .ok (.ireturn, 1) := by decide +kernel
theorem dX8_sail_11 : decode cX8_sail 11 = .ok (.aload_n 0, 1) := by decide +kernel
theorem dX8_sail_12 : decode cX8_sail 12 = .ok (.invokevirtual 53, 3) := by decide +kernel
theorem dX8_sail_15 : decode cX8_sail 15 = .ok (.aload_n 0, 1) := by decide +kernel
theorem dX8_sail_16 : decode cX8_sail 16 = .ok (.getfield 10, 3) := by decide +kernel
theorem dX8_sail_19 : decode cX8_sail 19 = .ok (.getfield 130, 3) := by decide +kernel
theorem dX8_sail_22 : decode cX8_sail 22 = .ok (.istore_n 2, 1) := by decide +kernel
theorem dX8_sail_23 : decode cX8_sail 23 = .ok (.aload_n 0, 1) := by decide +kernel
theorem dX8_sail_24 : decode cX8_sail 24 = .ok (.getfield 10, 3) := by decide +kernel
theorem dX8_sail_27 : decode cX8_sail 27 = .ok (.iload_n 1, 1) := by decide +kernel
theorem dX8_sail_28 : decode cX8_sail 28 = .ok (.putfield 130, 3) := by decide +kernel
theorem dX8_sail_31 : decode cX8_sail 31 = .ok (.iload_n 2, 1) := by decide +kernel
theorem dX8_sail_32 : decode cX8_sail 32 = .ok (.ireturn, 1) := by decide +kernel
theorem dX8_answer_0 : decode cX8_answer 0 = .ok (.aload_n 0, 1) := by decide +kernel
theorem dX8_answer_1 : decode cX8_answer 1 = .ok (.getfield 10, 3) := by decide +kernel
theorem dX8_answer_4 : decode cX8_answer 4 = .ok (.getfield 70, 3) := by decide +kernel
theorem dX8_answer_7 : decode cX8_answer 7 = .ok (.invokevirtual 200, 3) := by decide +kernel
theorem dX8_answer_10 : decode cX8_answer 10 = .ok (.ifCond .eq 14, 3) := by decide +kernel
theorem dX8_answer_13 : decode cX8_answer 13 = .ok (.aload_n 0, 1) := by decide +kernel
theorem dX8_answer_14 : decode cX8_answer 14 = .ok (.getfield 10, 3) := by decide +kernel
theorem dX8_answer_17 : decode cX8_answer 17 = .ok (.getfield 127, 3) := by decide +kernel
theorem dX8_answer_20 : decode cX8_answer 20 = .ok (.iconst 2, 1) := by decide +kernel
theorem dX8_answer_21 : decode cX8_answer 21 = .ok (.if_icmp .ne 6, 3) := by decide +kernel
theorem dX8_answer_24 : decode cX8_answer 24 = .ok (.bipush (-3), 2) := by decide +kernel
theorem dX8_answer_26 : decode cX8_answer 26 = .ok (.ireturn, 1) := by decide +kernel
theorem dX8_answer_27 : decode cX8_answer 27 = .ok (.aload_n 0, 1) := by decide +kernel
theorem dX8_answer_28 : decode cX8_answer 28 = .ok (.getfield 10, 3) := by decide +kernel
theorem dX8_answer_31 : decode cX8_answer 31 = .ok (.getfield 127, 3) := by decide +kernel
theorem dX8_answer_34 : decode cX8_answer 34 = .ok (.iconst 1, 1) := by decide +kernel
theorem dX8_answer_35 : decode cX8_answer 35 = .ok (.if_icmp .ne 23, 3) := by decide +kernel
theorem dX8_answer_38 : decode cX8_answer 38 = .ok (.aload_n 0, 1) := by decide +kernel
theorem dX8_answer_39 : decode cX8_answer 39 = .ok (.aload_n 0, 1) := by decide +kernel
theorem dX8_answer_40 : decode cX8_answer 40 = .ok (.getfield 10, 3) := by decide +kernel
theorem dX8_answer_43 : decode cX8_answer 43 = .ok (.getfield 130, 3) := by decide +kernel
theorem dX8_answer_46 : decode cX8_answer 46 = .ok (.invokevirtual 133, 3) := by decide +kernel
theorem dX8_answer_49 : decode cX8_answer 49 = .ok (.invokevirtual 203, 3) := by decide +kernel
theorem dX8_answer_52 : decode cX8_answer 52 = .ok (.ifCond .ne 6, 3) := by decide +kernel
theorem dX8_answer_55 : decode cX8_answer 55 = .ok (.bipush (-3), 2) := by decide +kernel
theorem dX8_answer_57 : decode cX8_answer 57 = .ok (.ireturn, 1) := by decide +kernel
theorem dX8_answer_58 : decode cX8_answer 58 = .ok (.aload_n 0, 1) := by decide +kernel
theorem dX8_answer_59 : decode cX8_answer 59 = .ok (.getfield 26, 3) := by decide +kernel
theorem dX8_answer_62 : decode cX8_answer 62 = .ok (.aload_n 0, 1) := by decide +kernel
theorem dX8_answer_63 : decode cX8_answer 63 = .ok (.getfield 10, 3) := by decide +kernel
theorem dX8_answer_66 : decode cX8_answer 66 = .ok (.invokevirtual 80, 3) := by decide +kernel
theorem dX8_answer_69 : decode cX8_answer 69 = .ok (.aload_n 0, 1) := by decide +kernel
theorem dX8_answer_70 : decode cX8_answer 70 = .ok (.getfield 10, 3) := by decide +kernel
theorem dX8_answer_73 : decode cX8_answer 73 = .ok (.aload_n 0, 1) := by decide +kernel
theorem dX8_answer_74 : decode cX8_answer 74 = .ok (.getfield 10, 3) := by decide +kernel
theorem dX8_answer_77 : decode cX8_answer 77 = .ok (.getfield 127, 3) := by decide +kernel
theorem dX8_answer_80 : decode cX8_answer 80 = .ok (.ifCond .ne 7, 3) := by decide +kernel
theorem dX8_answer_83 : decode cX8_answer 83 = .ok (.iconst 1, 1) := by decide +kernel
theorem dX8_answer_84 : decode cX8_answer 84 = .ok (.goto 4, 3) := by decide +kernel
theorem dX8_answer_87 : decode cX8_answer 87 = .ok (.iconst 2, 1) := by decide +kernel
theorem dX8_answer_88 : decode cX8_answer 88 = .ok (.putfield 127, 3) := by decide +kernel
theorem dX8_answer_91 : decode cX8_answer 91 = .ok (.aload_n 0, 1) := by decide +kernel
theorem dX8_answer_92 : decode cX8_answer 92 = .ok (.getfield 10, 3) := by decide +kernel
theorem dX8_answer_95 : decode cX8_answer 95 = .ok (.getfield 127, 3) := by decide +kernel
theorem dX8_answer_98 : decode cX8_answer 98 = .ok (.ireturn, 1) := by decide +kernel
theorem dX8_logged_0 : decode cX8_logged 0 = .ok (.iload_n 1, 1) := by decide +kernel
theorem dX8_logged_1 : decode cX8_logged 1 = .ok (.aload_n 0, 1) := by decide +kernel
theorem dX8_logged_2 : decode cX8_logged 2 = .ok (.getfield 10, 3) := by decide +kernel
theorem dX8_logged_5 : decode cX8_logged 5 = .ok (.getfield 140, 3) := by decide +kernel
theorem dX8_logged_8 : decode cX8_logged 8 = .ok (.invokevirtual 207, 3) := by decide +kernel
theorem dX8_logged_11 : decode cX8_logged 11 = .ok (.invokestatic 49, 3) := by decide +kernel
theorem dX8_logged_14 : decode cX8_logged 14 = .ok (.ifCond .ne 5, 3) := by decide +kernel
theorem dX8_logged_17 : decode cX8_logged 17 = .ok (.iconst (-1), 1) := by decide +kernel
theorem dX8_logged_18 : decode cX8_logged 18 = .ok (.ireturn, 1) := by decide +kernel
theorem dX8_logged_19 : decode cX8_logged 19 = .ok (.iload_n 2, 1) := by decide +kernel
theorem dX8_logged_20 : decode cX8_logged 20 = .ok (.ifCond .lt 8, 3) := by decide +kernel
theorem dX8_logged_23 : decode cX8_logged 23 = .ok (.iload_n 2, 1) := by decide +kernel
theorem dX8_logged_24 : decode cX8_logged 24 = .ok (.iconst 5, 1) := by decide +kernel
theorem dX8_logged_25 : decode cX8_logged 25 = .ok (.if_icmp .le 6, 3) := by decide +kernel
theorem dX8_logged_28 : decode cX8_logged 28 = .ok (.bipush (-2), 2) := by decide +kernel
theorem dX8_logged_30 : decode cX8_logged 30 = .ok (.ireturn, 1) := by decide +kernel
theorem dX8_logged_31 : decode cX8_logged 31 = .ok (.iload_n 2, 1) := by decide +kernel
theorem dX8_logged_32 : decode cX8_logged 32 = .ok (.aload_n 0, 1) := by decide +kernel
theorem dX8_logged_33 : decode cX8_logged 33 = .ok (.getfield 10, 3) := by decide +kernel
theorem dX8_logged_36 : decode cX8_logged 36 = .ok (.getfield 140, 3) := by decide +kernel
theorem dX8_logged_39 : decode cX8_logged 39 = .ok (.iload_n 1, 1) := by decide +kernel
theorem dX8_logged_40 : decode cX8_logged 40 = .ok (.invokevirtual 208, 3) := by decide +kernel
theorem dX8_logged_43 : decode cX8_logged 43 = .ok (.if_icmp .le 5, 3) := by decide +kernel
theorem dX8_logged_46 : decode cX8_logged 46 = .ok (.iconst (-1), 1) := by decide +kernel
theorem dX8_logged_47 : decode cX8_logged 47 = .ok (.ireturn, 1) := by decide +kernel
theorem dX8_logged_48 : decode cX8_logged 48 = .ok (.iload_n 2, 1) := by decide +kernel
theorem dX8_logged_49 : decode cX8_logged 49 = .ok (.ifCond .ne 17, 3) := by decide +kernel
theorem dX8_logged_52 : decode cX8_logged 52 = .ok (.aload_n 0, 1) := by decide +kernel
theorem dX8_logged_53 : decode cX8_logged 53 = .ok (.getfield 10, 3) := by decide +kernel
theorem dX8_logged_56 : decode cX8_logged 56 = .ok (.getfield 140, 3) := by decide +kernel
theorem dX8_logged_59 : decode cX8_logged 59 = .ok (.iload_n 1, 1) := by decide +kernel
theorem dX8_logged_60 : decode cX8_logged 60 = .ok (.invokevirtual 208, 3) := by decide +kernel
theorem dX8_logged_63 : decode cX8_logged 63 = .ok (.goto 17, 3) := by decide +kernel
theorem dX8_logged_66 : decode cX8_logged 66 = .ok (.aload_n 0, 1) := by decide +kernel
theorem dX8_logged_67 : decode cX8_logged 67 = .ok (.getfield 10, 3) := by decide +kernel
theorem dX8_logged_70 : decode cX8_logged 70 = .ok (.getfield 140, 3) := by decide +kernel
theorem dX8_logged_73 : decode cX8_logged 73 = .ok (.iload_n 1, 1) := by decide +kernel
theorem dX8_logged_74 : decode cX8_logged 74 = .ok (.iload_n 2, 1) := by decide +kernel
theorem dX8_logged_75 : decode cX8_logged 75 = .ok (.iconst 1, 1) := by decide +kernel
theorem dX8_logged_76 : decode cX8_logged 76 = .ok (.isub, 1) := by decide +kernel
theorem dX8_logged_77 : decode cX8_logged 77 = .ok (.invokevirtual 211, 3) := by decide +kernel
theorem dX8_logged_80 : decode cX8_logged 80 = .ok (.ireturn, 1) := by decide +kernel
theorem dX8_total_0 : decode cX8_total 0 = .ok (.iload_n 1, 1) := by decide +kernel
theorem dX8_total_1 : decode cX8_total 1 = .ok (.tableswitch 150 0 9 #[55, 63, 71, 79, 90, 101, 112, 120, 128, 139], 55) := by decide +kernel
theorem dX8_total_56 : decode cX8_total 56 = .ok (.aload_n 0, 1) := by decide +kernel
theorem dX8_total_57 : decode cX8_total 57 = .ok (.getfield 10, 3) := by decide +kernel
theorem dX8_total_60 : decode cX8_total 60 = .ok (.getfield 88, 3) := by decide +kernel
theorem dX8_total_63 : decode cX8_total 63 = .ok (.ireturn, 1) := by decide +kernel
theorem dX8_total_64 : decode cX8_total 64 = .ok (.aload_n 0, 1) := by decide +kernel
theorem dX8_total_65 : decode cX8_total 65 = .ok (.getfield 10, 3) := by decide +kernel
theorem dX8_total_68 : decode cX8_total 68 = .ok (.getfield 91, 3) := by decide +kernel
theorem dX8_total_71 : decode cX8_total 71 = .ok (.ireturn, 1) := by decide +kernel
theorem dX8_total_72 : decode cX8_total 72 = .ok (.aload_n 0, 1) := by decide +kernel
theorem dX8_total_73 : decode cX8_total 73 = .ok (.getfield 10, 3) := by decide +kernel
theorem dX8_total_76 : decode cX8_total 76 = .ok (.getfield 84, 3) := by decide +kernel
theorem dX8_total_79 : decode cX8_total 79 = .ok (.ireturn, 1) := by decide +kernel
theorem dX8_total_80 : decode cX8_total 80 = .ok (.aload_n 0, 1) := by decide +kernel
theorem dX8_total_81 : decode cX8_total 81 = .ok (.getfield 10, 3) := by decide +kernel
theorem dX8_total_84 : decode cX8_total 84 = .ok (.getfield 70, 3) := by decide +kernel
theorem dX8_total_87 : decode cX8_total 87 = .ok (.invokevirtual 200, 3) := by decide +kernel
theorem dX8_total_90 : decode cX8_total 90 = .ok (.ireturn, 1) := by decide +kernel
theorem dX8_total_91 : decode cX8_total 91 = .ok (.aload_n 0, 1) := by decide +kernel
theorem dX8_total_92 : decode cX8_total 92 = .ok (.getfield 10, 3) := by decide +kernel
theorem dX8_total_95 : decode cX8_total 95 = .ok (.getfield 70, 3) := by decide +kernel
theorem dX8_total_98 : decode cX8_total 98 = .ok (.invokevirtual 213, 3) := by decide +kernel
theorem dX8_total_101 : decode cX8_total 101 = .ok (.ireturn, 1) := by decide +kernel
theorem dX8_total_102 : decode cX8_total 102 = .ok (.aload_n 0, 1) := by decide +kernel
theorem dX8_total_103 : decode cX8_total 103 = .ok (.getfield 10, 3) := by decide +kernel
theorem dX8_total_106 : decode cX8_total 106 = .ok (.getfield 168, 3) := by decide +kernel
theorem dX8_total_109 : decode cX8_total 109 = .ok (.invokevirtual 172, 3) := by decide +kernel
theorem dX8_total_112 : decode cX8_total 112 = .ok (.ireturn, 1) := by decide +kernel
theorem dX8_total_113 : decode cX8_total 113 = .ok (.aload_n 0, 1) := by decide +kernel
theorem dX8_total_114 : decode cX8_total 114 = .ok (.getfield 10, 3) := by decide +kernel
theorem dX8_total_117 : decode cX8_total 117 = .ok (.getfield 130, 3) := by decide +kernel
theorem dX8_total_120 : decode cX8_total 120 = .ok (.ireturn, 1) := by decide +kernel
theorem dX8_total_121 : decode cX8_total 121 = .ok (.aload_n 0, 1) := by decide +kernel
theorem dX8_total_122 : decode cX8_total 122 = .ok (.getfield 10, 3) := by decide +kernel
theorem dX8_total_125 : decode cX8_total 125 = .ok (.getfield 127, 3) := by decide +kernel
theorem dX8_total_128 : decode cX8_total 128 = .ok (.ireturn, 1) := by decide +kernel
theorem dX8_total_129 : decode cX8_total 129 = .ok (.aload_n 0, 1) := by decide +kernel
theorem dX8_total_130 : decode cX8_total 130 = .ok (.getfield 10, 3) := by decide +kernel
theorem dX8_total_133 : decode cX8_total 133 = .ok (.getfield 140, 3) := by decide +kernel
theorem dX8_total_136 : decode cX8_total 136 = .ok (.invokevirtual 207, 3) := by decide +kernel
theorem dX8_total_139 : decode cX8_total 139 = .ok (.ireturn, 1) := by decide +kernel
theorem dX8_total_140 : decode cX8_total 140 = .ok (.aload_n 0, 1) := by decide +kernel
theorem dX8_total_141 : decode cX8_total 141 = .ok (.getfield 10, 3) := by decide +kernel
theorem dX8_total_144 : decode cX8_total 144 = .ok (.getfield 140, 3) := by decide +kernel
theorem dX8_total_147 : decode cX8_total 147 = .ok (.invokevirtual 216, 3) := by decide +kernel
theorem dX8_total_150 : decode cX8_total 150 = .ok (.ireturn, 1) := by decide +kernel
theorem dX8_total_151 : decode cX8_total 151 = .ok (.bipush (-2), 2) := by decide +kernel
theorem dX8_total_153 : decode cX8_total 153 = .ok (.ireturn, 1) := by decide +kernel
theorem dX8_leastWind_0 : decode cX8_leastWind 0 = .ok (.iload_n 1, 1) := by decide +kernel
theorem dX8_leastWind_1 : decode cX8_leastWind 1 = .ok (.iconst 2, 1) := by decide +kernel
theorem dX8_leastWind_2 : decode cX8_leastWind 2 = .ok (.invokestatic 49, 3) := by decide +kernel
theorem dX8_leastWind_5 : decode cX8_leastWind 5 = .ok (.ifCond .ne 6, 3) := by decide +kernel
theorem dX8_leastWind_8 : decode cX8_leastWind 8 = .ok (.bipush (-2), 2) := by decide +kernel
theorem dX8_leastWind_10 : decode cX8_leastWind 10 = .ok (.ireturn, 1) := by decide +kernel
theorem dX8_leastWind_11 : decode cX8_leastWind 11 = .ok (.aload_n 0, 1) := by decide +kernel
theorem dX8_leastWind_12 : decode cX8_leastWind 12 = .ok (.iload_n 1, 1) := by decide +kernel
theorem dX8_leastWind_13 : decode cX8_leastWind 13 = .ok (.invokevirtual 217, 3) := by decide +kernel
theorem dX8_leastWind_16 : decode cX8_leastWind 16 = .ok (.astore_n 2, 1) := by decide +kernel
theorem dX8_leastWind_17 : decode cX8_leastWind 17 = .ok (.iconst 0, 1) := by decide +kernel
theorem dX8_leastWind_18 : decode cX8_leastWind 18 = .ok (.istore_n 3, 1) := by decide +kernel
theorem dX8_leastWind_19 : decode cX8_leastWind 19 = .ok (.iload_n 3, 1) := by decide +kernel
theorem dX8_leastWind_20 : decode cX8_leastWind 20 = .ok (.bipush 10, 2) := by decide +kernel
theorem dX8_leastWind_22 : decode cX8_leastWind 22 = .ok (.if_icmp .ge 34, 3) := by decide +kernel
theorem dX8_leastWind_25 : decode cX8_leastWind 25 = .ok (.aload_n 2, 1) := by decide +kernel
theorem dX8_leastWind_26 : decode cX8_leastWind 26 = .ok (.aload_n 0, 1) := by decide +kernel
theorem dX8_leastWind_27 : decode cX8_leastWind 27 = .ok (.getfield 10, 3) := by decide +kernel
theorem dX8_leastWind_30 : decode cX8_leastWind 30 = .ok (.iload_n 3, 1) := by decide +kernel
theorem dX8_leastWind_31 : decode cX8_leastWind 31 = .ok (.aload_n 0, 1) := by decide +kernel
theorem dX8_leastWind_32 : decode cX8_leastWind 32 = .ok (.getfield 10, 3) := by decide +kernel
theorem dX8_leastWind_35 : decode cX8_leastWind 35 = .ok (.getfield 91, 3) := by decide +kernel
theorem dX8_leastWind_38 : decode cX8_leastWind 38 = .ok (.invokevirtual 220, 3) := by decide +kernel
theorem dX8_leastWind_41 : decode cX8_leastWind 41 = .ok (.aload_n 2, 1) := by decide +kernel
theorem dX8_leastWind_42 : decode cX8_leastWind 42 = .ok (.invokevirtual 203, 3) := by decide +kernel
theorem dX8_leastWind_45 : decode cX8_leastWind 45 = .ok (.ifCond .eq 5, 3) := by decide +kernel
theorem dX8_leastWind_48 : decode cX8_leastWind 48 = .ok (.iload_n 3, 1) := by decide +kernel
theorem dX8_leastWind_49 : decode cX8_leastWind 49 = .ok (.ireturn, 1) := by decide +kernel
theorem dX8_leastWind_50 : decode cX8_leastWind 50 = .ok (.iinc 3 1, 3) := by decide +kernel
theorem dX8_leastWind_53 : decode cX8_leastWind 53 = .ok (.goto (-34), 3) := by decide +kernel
theorem dX8_leastWind_56 : decode cX8_leastWind 56 = .ok (.bipush (-6), 2) := by decide +kernel
theorem dX8_leastWind_58 : decode cX8_leastWind 58 = .ok (.ireturn, 1) := by decide +kernel
theorem dX8_ifTurned_0 : decode cX8_ifTurned 0 = .ok (.iload_n 1, 1) := by decide +kernel
theorem dX8_ifTurned_1 : decode cX8_ifTurned 1 = .ok (.iconst 2, 1) := by decide +kernel
theorem dX8_ifTurned_2 : decode cX8_ifTurned 2 = .ok (.invokestatic 49, 3) := by decide +kernel
theorem dX8_ifTurned_5 : decode cX8_ifTurned 5 = .ok (.ifCond .ne 6, 3) := by decide +kernel
theorem dX8_ifTurned_8 : decode cX8_ifTurned 8 = .ok (.bipush (-2), 2) := by decide +kernel
theorem dX8_ifTurned_10 : decode cX8_ifTurned 10 = .ok (.ireturn, 1) := by decide +kernel
theorem dX8_ifTurned_11 : decode cX8_ifTurned 11 = .ok (.aload_n 0, 1) := by decide +kernel
theorem dX8_ifTurned_12 : decode cX8_ifTurned 12 = .ok (.iload_n 1, 1) := by decide +kernel
theorem dX8_ifTurned_13 : decode cX8_ifTurned 13 = .ok (.invokevirtual 217, 3) := by decide +kernel
theorem dX8_ifTurned_16 : decode cX8_ifTurned 16 = .ok (.astore_n 2, 1) := by decide +kernel
theorem dX8_ifTurned_17 : decode cX8_ifTurned 17 = .ok (.aload_n 2, 1) := by decide +kernel
theorem dX8_ifTurned_18 : decode cX8_ifTurned 18 = .ok (.aload_n 0, 1) := by decide +kernel
theorem dX8_ifTurned_19 : decode cX8_ifTurned 19 = .ok (.getfield 10, 3) := by decide +kernel
theorem dX8_ifTurned_22 : decode cX8_ifTurned 22 = .ok (.aload_n 0, 1) := by decide +kernel
theorem dX8_ifTurned_23 : decode cX8_ifTurned 23 = .ok (.getfield 10, 3) := by decide +kernel
theorem dX8_ifTurned_26 : decode cX8_ifTurned 26 = .ok (.getfield 88, 3) := by decide +kernel
theorem dX8_ifTurned_29 : decode cX8_ifTurned 29 = .ok (.iconst 1, 1) := by decide +kernel
theorem dX8_ifTurned_30 : decode cX8_ifTurned 30 = .ok (.aload_n 0, 1) := by decide +kernel
theorem dX8_ifTurned_31 : decode cX8_ifTurned 31 = .ok (.getfield 10, 3) := by decide +kernel
theorem dX8_ifTurned_34 : decode cX8_ifTurned 34 = .ok (.getfield 91, 3) := by decide +kernel
theorem dX8_ifTurned_37 : decode cX8_ifTurned 37 = .ok (.isub, 1) := by decide +kernel
theorem dX8_ifTurned_38 : decode cX8_ifTurned 38 = .ok (.invokevirtual 220, 3) := by decide +kernel
theorem dX8_ifTurned_41 : decode cX8_ifTurned 41 = .ok (.aload_n 2, 1) := by decide +kernel
theorem dX8_ifTurned_42 : decode cX8_ifTurned 42 = .ok (.invokevirtual 193, 3) := by decide +kernel
theorem dX8_ifTurned_45 : decode cX8_ifTurned 45 = .ok (.ireturn, 1) := by decide +kernel
theorem dX8_mendingExchange_0 : decode cX8_mendingExchange 0 = .ok (.aload_n 0, 1) := by decide +kernel
theorem dX8_mendingExchange_1 : decode cX8_mendingExchange 1 = .ok (.iconst 0, 1) := by decide +kernel
theorem dX8_mendingExchange_2 : decode cX8_mendingExchange 2 = .ok (.invokevirtual 133, 3) := by decide +kernel
theorem dX8_mendingExchange_5 : decode cX8_mendingExchange 5 = .ok (.aload_n 0, 1) := by decide +kernel
theorem dX8_mendingExchange_6 : decode cX8_mendingExchange 6 = .ok (.iconst 1, 1) := by decide +kernel
theorem dX8_mendingExchange_7 : decode cX8_mendingExchange 7 = .ok (.invokevirtual 133, 3) := by decide +kernel
theorem dX8_mendingExchange_10 : decode cX8_mendingExchange 10 = .ok (.invokevirtual 196, 3) := by decide +kernel
theorem dX8_mendingExchange_13 : decode cX8_mendingExchange 13 = .ok (.ifCond .eq 5, 3) := by decide +kernel
theorem dX8_mendingExchange_16 : decode cX8_mendingExchange 16 = .ok (.iconst 0, 1) := by decide +kernel
theorem dX8_mendingExchange_17 : decode cX8_mendingExchange 17 = .ok (.ireturn, 1) := by decide +kernel
theorem dX8_mendingExchange_18 : decode cX8_mendingExchange 18 = .ok (.iconst 0, 1) := by decide +kernel
theorem dX8_mendingExchange_19 : decode cX8_mendingExchange 19 = .ok (.istore_n 1, 1) := by decide +kernel
theorem dX8_mendingExchange_20 : decode cX8_mendingExchange 20 = .ok (.iload_n 1, 1) := by decide +kernel
theorem dX8_mendingExchange_21 : decode cX8_mendingExchange 21 = .ok (.iconst 5, 1) := by decide +kernel
theorem dX8_mendingExchange_22 : decode cX8_mendingExchange 22 = .ok (.if_icmp .ge 63, 3) := by decide +kernel
theorem dX8_mendingExchange_25 : decode cX8_mendingExchange 25 = .ok (.iload_n 1, 1) := by decide +kernel
theorem dX8_mendingExchange_26 : decode cX8_mendingExchange 26 = .ok (.iconst 1, 1) := by decide +kernel
theorem dX8_mendingExchange_27 : decode cX8_mendingExchange 27 = .ok (.iadd, 1) := by decide +kernel
theorem dX8_mendingExchange_28 : decode cX8_mendingExchange 28 = .ok (.istore_n 2, 1) := by decide +kernel
theorem dX8_mendingExchange_29 : decode cX8_mendingExchange 29 = .ok (.iload_n 2, 1) := by decide +kernel
theorem dX8_mendingExchange_30 : decode cX8_mendingExchange 30 = .ok (.iconst 5, 1) := by decide +kernel
theorem dX8_mendingExchange_31 : decode cX8_mendingExchange 31 = .ok (.if_icmp .ge 48, 3) := by decide +kernel
theorem dX8_mendingExchange_34 : decode cX8_mendingExchange 34 = .ok (.aload_n 0, 1) := by decide +kernel
theorem dX8_mendingExchange_35 : decode cX8_mendingExchange 35 = .ok (.getfield 42, 3) := by decide +kernel
theorem dX8_mendingExchange_38 : decode cX8_mendingExchange 38 = .ok (.iload_n 1, 1) := by decide +kernel
theorem dX8_mendingExchange_39 : decode cX8_mendingExchange 39 = .ok (.iload_n 2, 1) := by decide +kernel
theorem dX8_mendingExchange_40 : decode cX8_mendingExchange 40 = .ok (.invokevirtual 224, 3) := by decide +kernel
theorem dX8_mendingExchange_43 : decode cX8_mendingExchange 43 = .ok (.aload_n 0, 1) := by decide +kernel
theorem dX8_mendingExchange_44 : decode cX8_mendingExchange 44 = .ok (.getfield 46, 3) := by decide +kernel
theorem dX8_mendingExchange_47 : decode cX8_mendingExchange 47 = .ok (.iload_n 1, 1) := by decide +kernel
theorem dX8_mendingExchange_48 : decode cX8_mendingExchange 48 = .ok (.iload_n 2, 1) := by decide +kernel
theorem dX8_mendingExchange_49 : decode cX8_mendingExchange 49 = .ok (.invokevirtual 224, 3) := by decide +kernel
theorem dX8_mendingExchange_52 : decode cX8_mendingExchange 52 = .ok (.aload_n 0, 1) := by decide +kernel
theorem dX8_mendingExchange_53 : decode cX8_mendingExchange 53 = .ok (.getfield 42, 3) := by decide +kernel
theorem dX8_mendingExchange_56 : decode cX8_mendingExchange 56 = .ok (.aload_n 0, 1) := by decide +kernel
theorem dX8_mendingExchange_57 : decode cX8_mendingExchange 57 = .ok (.getfield 46, 3) := by decide +kernel
theorem dX8_mendingExchange_60 : decode cX8_mendingExchange 60 = .ok (.invokevirtual 196, 3) := by decide +kernel
theorem dX8_mendingExchange_63 : decode cX8_mendingExchange 63 = .ok (.ifCond .eq 10, 3) := by decide +kernel
theorem dX8_mendingExchange_66 : decode cX8_mendingExchange 66 = .ok (.bipush 10, 2) := by decide +kernel
theorem dX8_mendingExchange_68 : decode cX8_mendingExchange 68 = .ok (.iload_n 1, 1) := by decide +kernel
theorem dX8_mendingExchange_69 : decode cX8_mendingExchange 69 = .ok (.imul, 1) := by decide +kernel
theorem dX8_mendingExchange_70 : decode cX8_mendingExchange 70 = .ok (.iload_n 2, 1) := by decide +kernel
theorem dX8_mendingExchange_71 : decode cX8_mendingExchange 71 = .ok (.iadd, 1) := by decide +kernel
theorem dX8_mendingExchange_72 : decode cX8_mendingExchange 72 = .ok (.ireturn, 1) := by decide +kernel
theorem dX8_mendingExchange_73 : decode cX8_mendingExchange 73 = .ok (.iinc 2 1, 3) := by decide +kernel
theorem dX8_mendingExchange_76 : decode cX8_mendingExchange 76 = .ok (.goto (-47), 3) := by decide +kernel
theorem dX8_mendingExchange_79 : decode cX8_mendingExchange 79 = .ok (.iinc 1 1, 3) := by decide +kernel
theorem dX8_mendingExchange_82 : decode cX8_mendingExchange 82 = .ok (.goto (-62), 3) := by decide +kernel
theorem dX8_mendingExchange_85 : decode cX8_mendingExchange 85 = .ok (.bipush (-6), 2) := by decide +kernel
theorem dX8_mendingExchange_87 : decode cX8_mendingExchange 87 = .ok (.ireturn, 1) := by decide +kernel
theorem dX8_bestEntry_0 : decode cX8_bestEntry 0 = .ok (.iload_n 1, 1) := by decide +kernel
theorem dX8_bestEntry_1 : decode cX8_bestEntry 1 = .ok (.bipush 100, 2) := by decide +kernel
theorem dX8_bestEntry_3 : decode cX8_bestEntry 3 = .ok (.invokestatic 49, 3) := by decide +kernel
theorem dX8_bestEntry_6 : decode cX8_bestEntry 6 = .ok (.ifCond .ne 6, 3) := by decide +kernel
theorem dX8_bestEntry_9 : decode cX8_bestEntry 9 = .ok (.bipush (-2), 2) := by decide +kernel
theorem dX8_bestEntry_11 : decode cX8_bestEntry 11 = .ok (.ireturn, 1) := by decide +kernel
theorem dX8_bestEntry_12 : decode cX8_bestEntry 12 = .ok (.bipush (-6), 2) := by decide +kernel
theorem dX8_bestEntry_14 : decode cX8_bestEntry 14 = .ok (.istore_n 2, 1) := by decide +kernel
theorem dX8_bestEntry_15 : decode cX8_bestEntry 15 = .ok (.iconst 5, 1) := by decide +kernel
theorem dX8_bestEntry_16 : decode cX8_bestEntry 16 = .ok (.istore_n 3, 1) := by decide +kernel
theorem dX8_bestEntry_17 : decode cX8_bestEntry 17 = .ok (.iconst 0, 1) := by decide +kernel
theorem dX8_bestEntry_18 : decode cX8_bestEntry 18 = .ok (.istore 4, 2) := by decide +kernel
theorem dX8_bestEntry_20 : decode cX8_bestEntry 20 = .ok (.iload 4, 2) := by decide +kernel
theorem dX8_bestEntry_22 : decode cX8_bestEntry 22 = .ok (.aload_n 0, 1) := by decide +kernel
theorem dX8_bestEntry_23 : decode cX8_bestEntry 23 = .ok (.getfield 10, 3) := by decide +kernel
theorem dX8_bestEntry_26 : decode cX8_bestEntry 26 = .ok (.getfield 168, 3) := by decide +kernel
theorem dX8_bestEntry_29 : decode cX8_bestEntry 29 = .ok (.invokevirtual 172, 3) := by decide +kernel
theorem dX8_bestEntry_32 : decode cX8_bestEntry 32 = .ok (.if_icmp .ge 67, 3) := by decide +kernel
theorem dX8_bestEntry_35 : decode cX8_bestEntry 35 = .ok (.aload_n 0, 1) := by decide +kernel
theorem dX8_bestEntry_36 : decode cX8_bestEntry 36 = .ok (.getfield 10, 3) := by decide +kernel
theorem dX8_bestEntry_39 : decode cX8_bestEntry 39 = .ok (.getfield 168, 3) := by decide +kernel
theorem dX8_bestEntry_42 : decode cX8_bestEntry 42 = .ok (.iload 4, 2) := by decide +kernel
theorem dX8_bestEntry_44 : decode cX8_bestEntry 44 = .ok (.invokevirtual 179, 3) := by decide +kernel
theorem dX8_bestEntry_47 : decode cX8_bestEntry 47 = .ok (.istore 5, 2) := by decide +kernel
theorem dX8_bestEntry_49 : decode cX8_bestEntry 49 = .ok (.iload 5, 2) := by decide +kernel
theorem dX8_bestEntry_51 : decode cX8_bestEntry 51 = .ok (.invokestatic 227, 3) := by decide +kernel
theorem dX8_bestEntry_54 : decode cX8_bestEntry 54 = .ok (.istore 6, 2) := by decide +kernel
theorem dX8_bestEntry_56 : decode cX8_bestEntry 56 = .ok (.aload_n 0, 1) := by decide +kernel
theorem dX8_bestEntry_57 : decode cX8_bestEntry 57 = .ok (.getfield 10, 3) := by decide +kernel
theorem dX8_bestEntry_60 : decode cX8_bestEntry 60 = .ok (.getfield 168, 3) := by decide +kernel
theorem dX8_bestEntry_63 : decode cX8_bestEntry 63 = .ok (.iload 4, 2) := by decide +kernel
theorem dX8_bestEntry_65 : decode cX8_bestEntry 65 = .ok (.invokevirtual 182, 3) := by decide +kernel
theorem dX8_bestEntry_68 : decode cX8_bestEntry 68 = .ok (.iload_n 1, 1) := by decide +kernel
theorem dX8_bestEntry_69 : decode cX8_bestEntry 69 = .ok (.if_icmp .ne 24, 3) := by decide +kernel
theorem dX8_bestEntry_72 : decode cX8_bestEntry 72 = .ok (.iload 6, 2) := by decide +kernel
theorem dX8_bestEntry_74 : decode cX8_bestEntry 74 = .ok (.iload_n 3, 1) := by decide +kernel
theorem dX8_bestEntry_75 : decode cX8_bestEntry 75 = .ok (.if_icmp .ge 18, 3) := by decide +kernel
theorem dX8_bestEntry_78 : decode cX8_bestEntry 78 = .ok (.aload_n 0, 1) := by decide +kernel
theorem dX8_bestEntry_79 : decode cX8_bestEntry 79 = .ok (.iload 5, 2) := by decide +kernel
theorem dX8_bestEntry_81 : decode cX8_bestEntry 81 = .ok (.invokevirtual 230, 3) := by decide +kernel
theorem dX8_bestEntry_84 : decode cX8_bestEntry 84 = .ok (.ifCond .eq 9, 3) := by decide +kernel
theorem dX8_bestEntry_87 : decode cX8_bestEntry 87 = .ok (.iload 4, 2) := by decide +kernel
theorem dX8_bestEntry_89 : decode cX8_bestEntry 89 = .ok (.istore_n 2, 1) := by decide +kernel
theorem dX8_bestEntry_90 : decode cX8_bestEntry 90 = .ok (.iload 6, 2) := by decide +kernel
theorem dX8_bestEntry_92 : decode cX8_bestEntry 92 = .ok (.istore_n 3, 1) := by decide +kernel
theorem dX8_bestEntry_93 : decode cX8_bestEntry 93 = .ok (.iinc 4 1, 3) := by decide +kernel
theorem dX8_bestEntry_96 : decode cX8_bestEntry 96 = .ok (.goto (-76), 3) := by decide +kernel
theorem dX8_bestEntry_99 : decode cX8_bestEntry 99 = .ok (.iload_n 2, 1) := by decide +kernel
theorem dX8_bestEntry_100 : decode cX8_bestEntry 100 = .ok (.ireturn, 1) := by decide +kernel
theorem dX8_append_0 : decode cX8_append 0 = .ok (.iload_n 1, 1) := by decide +kernel
theorem dX8_append_1 : decode cX8_append 1 = .ok (.bipush 33, 2) := by decide +kernel
theorem dX8_append_3 : decode cX8_append 3 = .ok (.if_icmp .lt 9, 3) := by decide +kernel
theorem dX8_append_6 : decode cX8_append 6 = .ok (.iload_n 1, 1) := by decide +kernel
theorem dX8_append_7 : decode cX8_append 7 = .ok (.bipush 126, 2) := by decide +kernel
theorem dX8_append_9 : decode cX8_append 9 = .ok (.if_icmp .le 6, 3) := by decide +kernel
theorem dX8_append_12 : decode cX8_append 12 = .ok (.bipush (-2), 2) := by decide +kernel
theorem dX8_append_14 : decode cX8_append 14 = .ok (.ireturn, 1) := by decide +kernel
theorem dX8_append_15 : decode cX8_append 15 = .ok (.aload_n 0, 1) := by decide +kernel
theorem dX8_append_16 : decode cX8_append 16 = .ok (.getfield 33, 3) := by decide +kernel
theorem dX8_append_19 : decode cX8_append 19 = .ok (.invokevirtual 233, 3) := by decide +kernel
theorem dX8_append_22 : decode cX8_append 22 = .ok (.bipush 50, 2) := by decide +kernel
theorem dX8_append_24 : decode cX8_append 24 = .ok (.if_icmp .lt 6, 3) := by decide +kernel
theorem dX8_append_27 : decode cX8_append 27 = .ok (.bipush (-4), 2) := by decide +kernel
theorem dX8_append_29 : decode cX8_append 29 = .ok (.ireturn, 1) := by decide +kernel
theorem dX8_append_30 : decode cX8_append 30 = .ok (.aload_n 0, 1) := by decide +kernel
theorem dX8_append_31 : decode cX8_append 31 = .ok (.getfield 33, 3) := by decide +kernel
theorem dX8_append_34 : decode cX8_append 34 = .ok (.iload_n 1, 1) := by decide +kernel
theorem dX8_append_35 : decode cX8_append 35 = .ok (.invokevirtual 234, 3) := by decide +kernel
theorem dX8_append_38 : decode cX8_append 38 = .ok (.aload_n 0, 1) := by decide +kernel
theorem dX8_append_39 : decode cX8_append 39 = .ok (.getfield 33, 3) := by decide +kernel
theorem dX8_append_42 : decode cX8_append 42 = .ok (.invokevirtual 233, 3) := by decide +kernel
theorem dX8_append_45 : decode cX8_append 45 = .ok (.ireturn, 1) := by decide +kernel
theorem dX8_clearText_0 : decode cX8_clearText 0 = .ok (.aload_n 0, 1) := by decide +kernel
theorem dX8_clearText_1 : decode cX8_clearText 1 = .ok (.getfield 33, 3) := by decide +kernel
theorem dX8_clearText_4 : decode cX8_clearText 4 = .ok (.invokevirtual 233, 3) := by decide +kernel
theorem dX8_clearText_7 : decode cX8_clearText 7 = .ok (.istore_n 1, 1) := by decide +kernel
theorem dX8_clearText_8 : decode cX8_clearText 8 = .ok (.aload_n 0, 1) := by decide +kernel
theorem dX8_clearText_9 : decode cX8_clearText 9 = .ok (.getfield 33, 3) := by decide +kernel
theorem dX8_clearText_12 : decode cX8_clearText 12 = .ok (.invokevirtual 236, 3) := by decide +kernel
theorem dX8_clearText_15 : decode cX8_clearText 15 = .ok (.iload_n 1, 1) := by decide +kernel
theorem dX8_clearText_16 : decode cX8_clearText 16 = .ok (.ireturn, 1) := by decide +kernel
theorem dX8_errorPosition_0 : decode cX8_errorPosition 0 = .ok (.aload_n 0, 1) := by decide +kernel
theorem dX8_errorPosition_1 : decode cX8_errorPosition 1 = .ok (.getfield 33, 3) := by decide +kernel
theorem dX8_errorPosition_4 : decode cX8_errorPosition 4 = .ok (.invokevirtual 237, 3) := by decide +kernel
theorem dX8_errorPosition_7 : decode cX8_errorPosition 7 = .ok (.ireturn, 1) := by decide +kernel
theorem dX8_hoist_0 : decode cX8_hoist 0 = .ok (.aload_n 0, 1) := by decide +kernel
theorem dX8_hoist_1 : decode cX8_hoist 1 = .ok (.getfield 33, 3) := by decide +kernel
theorem dX8_hoist_4 : decode cX8_hoist 4 = .ok (.invokevirtual 237, 3) := by decide +kernel
theorem dX8_hoist_7 : decode cX8_hoist 7 = .ok (.bipush (-6), 2) := by decide +kernel
theorem dX8_hoist_9 : decode cX8_hoist 9 = .ok (.if_icmp .eq 6, 3) := by decide +kernel
theorem dX8_hoist_12 : decode cX8_hoist 12 = .ok (.bipush (-5), 2) := by decide +kernel
theorem dX8_hoist_14 : decode cX8_hoist 14 = .ok (.ireturn, 1) := by decide +kernel
theorem dX8_hoist_15 : decode cX8_hoist 15 = .ok (.aload_n 0, 1) := by decide +kernel
theorem dX8_hoist_16 : decode cX8_hoist 16 = .ok (.getfield 33, 3) := by decide +kernel
theorem dX8_hoist_19 : decode cX8_hoist 19 = .ok (.getfield 240, 3) := by decide +kernel
theorem dX8_hoist_22 : decode cX8_hoist 22 = .ok (.invokevirtual 74, 3) := by decide +kernel
theorem dX8_hoist_25 : decode cX8_hoist 25 = .ok (.aload_n 0, 1) := by decide +kernel
theorem dX8_hoist_26 : decode cX8_hoist 26 = .ok (.getfield 10, 3) := by decide +kernel
theorem dX8_hoist_29 : decode cX8_hoist 29 = .ok (.getfield 84, 3) := by decide +kernel
theorem dX8_hoist_32 : decode cX8_hoist 32 = .ok (.if_icmp .le 6, 3) := by decide +kernel
theorem dX8_hoist_35 : decode cX8_hoist 35 = .ok (.bipush (-4), 2) := by decide +kernel
theorem dX8_hoist_37 : decode cX8_hoist 37 = .ok (.ireturn, 1) := by decide +kernel
theorem dX8_hoist_38 : decode cX8_hoist 38 = .ok (.aload_n 0, 1) := by decide +kernel
theorem dX8_hoist_39 : decode cX8_hoist 39 = .ok (.invokevirtual 53, 3) := by decide +kernel
theorem dX8_hoist_42 : decode cX8_hoist 42 = .ok (.aload_n 0, 1) := by decide +kernel
theorem dX8_hoist_43 : decode cX8_hoist 43 = .ok (.getfield 10, 3) := by decide +kernel
theorem dX8_hoist_46 : decode cX8_hoist 46 = .ok (.getfield 70, 3) := by decide +kernel
theorem dX8_hoist_49 : decode cX8_hoist 49 = .ok (.aload_n 0, 1) := by decide +kernel
theorem dX8_hoist_50 : decode cX8_hoist 50 = .ok (.getfield 33, 3) := by decide +kernel
theorem dX8_hoist_53 : decode cX8_hoist 53 = .ok (.getfield 240, 3) := by decide +kernel
theorem dX8_hoist_56 : decode cX8_hoist 56 = .ok (.invokevirtual 241, 3) := by decide +kernel
theorem dX8_hoist_59 : decode cX8_hoist 59 = .ok (.aload_n 0, 1) := by decide +kernel
theorem dX8_hoist_60 : decode cX8_hoist 60 = .ok (.getfield 33, 3) := by decide +kernel
theorem dX8_hoist_63 : decode cX8_hoist 63 = .ok (.invokevirtual 236, 3) := by decide +kernel
theorem dX8_hoist_66 : decode cX8_hoist 66 = .ok (.aload_n 0, 1) := by decide +kernel
theorem dX8_hoist_67 : decode cX8_hoist 67 = .ok (.getfield 10, 3) := by decide +kernel
theorem dX8_hoist_70 : decode cX8_hoist 70 = .ok (.getfield 70, 3) := by decide +kernel
theorem dX8_hoist_73 : decode cX8_hoist 73 = .ok (.invokevirtual 200, 3) := by decide +kernel
theorem dX8_hoist_76 : decode cX8_hoist 76 = .ok (.ireturn, 1) := by decide +kernel
theorem dX8_undo_0 : decode cX8_undo 0 = .ok (.aload_n 0, 1) := by decide +kernel
theorem dX8_undo_1 : decode cX8_undo 1 = .ok (.getfield 26, 3) := by decide +kernel
end
section
theorem dX8_undo_4 : decode cX8_undo 4 = .ok (.invokevirtual 245, 3) := by decide +kernel
theorem dX8_undo_7 : decode cX8_undo 7 = .ok (.ifCond .ne 6, 3) := by decide +kernel
theorem dX8_undo_10 : decode cX8_undo 10 = .ok (.bipush (-3), 2) := by decide +kernel
theorem dX8_undo_12 : decode cX8_undo 12 = .ok (.ireturn, 1) := by decide +kernel
theorem dX8_undo_13 : decode cX8_undo 13 = .ok (.aload_n 0, 1) := by decide +kernel
theorem dX8_undo_14 : decode cX8_undo 14 = .ok (.getfield 26, 3) := by decide +kernel
theorem dX8_undo_17 : decode cX8_undo 17 = .ok (.aload_n 0, 1) := by decide +kernel
theorem dX8_undo_18 : decode cX8_undo 18 = .ok (.getfield 10, 3) := by decide +kernel
theorem dX8_undo_21 : decode cX8_undo 21 = .ok (.invokevirtual 246, 3) := by decide +kernel
theorem dX8_undo_24 : decode cX8_undo 24 = .ok (.aload_n 0, 1) := by decide +kernel
theorem dX8_undo_25 : decode cX8_undo 25 = .ok (.getfield 26, 3) := by decide +kernel
theorem dX8_undo_28 : decode cX8_undo 28 = .ok (.invokevirtual 245, 3) := by decide +kernel
theorem dX8_undo_31 : decode cX8_undo 31 = .ok (.ireturn, 1) := by decide +kernel
theorem dX8_save_0 : decode cX8_save 0 = .ok (.aload_n 0, 1) := by decide +kernel
theorem dX8_save_1 : decode cX8_save 1 = .ok (.getfield 16, 3) := by decide +kernel
theorem dX8_save_4 : decode cX8_save 4 = .ok (.aload_n 0, 1) := by decide +kernel
theorem dX8_save_5 : decode cX8_save 5 = .ok (.getfield 10, 3) := by decide +kernel
theorem dX8_save_8 : decode cX8_save 8 = .ok (.invokevirtual 249, 3) := by decide +kernel
theorem dX8_save_11 : decode cX8_save 11 = .ok (.aload_n 0, 1) := by decide +kernel
theorem dX8_save_12 : decode cX8_save 12 = .ok (.iconst 1, 1) := by decide +kernel
theorem dX8_save_13 : decode cX8_save 13 = .ok (.putfield 19, 3) := by decide +kernel
theorem dX8_save_16 : decode cX8_save 16 = .ok (.aload_n 0, 1) := by decide +kernel
theorem dX8_save_17 : decode cX8_save 17 = .ok (.getfield 10, 3) := by decide +kernel
theorem dX8_save_20 : decode cX8_save 20 = .ok (.getfield 70, 3) := by decide +kernel
theorem dX8_save_23 : decode cX8_save 23 = .ok (.invokevirtual 200, 3) := by decide +kernel
theorem dX8_save_26 : decode cX8_save 26 = .ok (.ireturn, 1) := by decide +kernel
theorem dX8_restore_0 : decode cX8_restore 0 = .ok (.aload_n 0, 1) := by decide +kernel
theorem dX8_restore_1 : decode cX8_restore 1 = .ok (.getfield 19, 3) := by decide +kernel
theorem dX8_restore_4 : decode cX8_restore 4 = .ok (.ifCond .ne 6, 3) := by decide +kernel
theorem dX8_restore_7 : decode cX8_restore 7 = .ok (.bipush (-3), 2) := by decide +kernel
theorem dX8_restore_9 : decode cX8_restore 9 = .ok (.ireturn, 1) := by decide +kernel
theorem dX8_restore_10 : decode cX8_restore 10 = .ok (.aload_n 0, 1) := by decide +kernel
theorem dX8_restore_11 : decode cX8_restore 11 = .ok (.getfield 26, 3) := by decide +kernel
theorem dX8_restore_14 : decode cX8_restore 14 = .ok (.aload_n 0, 1) := by decide +kernel
theorem dX8_restore_15 : decode cX8_restore 15 = .ok (.getfield 10, 3) := by decide +kernel
theorem dX8_restore_18 : decode cX8_restore 18 = .ok (.invokevirtual 80, 3) := by decide +kernel
theorem dX8_restore_21 : decode cX8_restore 21 = .ok (.aload_n 0, 1) := by decide +kernel
theorem dX8_restore_22 : decode cX8_restore 22 = .ok (.getfield 10, 3) := by decide +kernel
theorem dX8_restore_25 : decode cX8_restore 25 = .ok (.aload_n 0, 1) := by decide +kernel
theorem dX8_restore_26 : decode cX8_restore 26 = .ok (.getfield 16, 3) := by decide +kernel
theorem dX8_restore_29 : decode cX8_restore 29 = .ok (.invokevirtual 249, 3) := by decide +kernel
theorem dX8_restore_32 : decode cX8_restore 32 = .ok (.aload_n 0, 1) := by decide +kernel
theorem dX8_restore_33 : decode cX8_restore 33 = .ok (.getfield 10, 3) := by decide +kernel
theorem dX8_restore_36 : decode cX8_restore 36 = .ok (.getfield 70, 3) := by decide +kernel
theorem dX8_restore_39 : decode cX8_restore 39 = .ok (.invokevirtual 200, 3) := by decide +kernel
theorem dX8_restore_42 : decode cX8_restore 42 = .ok (.ireturn, 1) := by decide +kernel
theorem dX8_recordAndBringPennantDown_0 : decode cX8_recordAndBringPennantDown 0 = .ok (.aload_n 0, 1) := by decide +kernel
theorem dX8_recordAndBringPennantDown_1 : decode cX8_recordAndBringPennantDown 1 = .ok (.getfield 26, 3) := by decide +kernel
theorem dX8_recordAndBringPennantDown_4 : decode cX8_recordAndBringPennantDown 4 = .ok (.aload_n 0, 1) := by decide +kernel
theorem dX8_recordAndBringPennantDown_5 : decode cX8_recordAndBringPennantDown 5 = .ok (.getfield 10, 3) := by decide +kernel
theorem dX8_recordAndBringPennantDown_8 : decode cX8_recordAndBringPennantDown 8 = .ok (.invokevirtual 80, 3) := by decide +kernel
theorem dX8_recordAndBringPennantDown_11 : decode cX8_recordAndBringPennantDown 11 = .ok (.aload_n 0, 1) := by decide +kernel
theorem dX8_recordAndBringPennantDown_12 : decode cX8_recordAndBringPennantDown 12 = .ok (.getfield 10, 3) := by decide +kernel
theorem dX8_recordAndBringPennantDown_15 : decode cX8_recordAndBringPennantDown 15 = .ok (.iconst 0, 1) := by decide +kernel
theorem dX8_recordAndBringPennantDown_16 : decode cX8_recordAndBringPennantDown 16 = .ok (.putfield 127, 3) := by decide +kernel
theorem dX8_recordAndBringPennantDown_19 : decode cX8_recordAndBringPennantDown 19 = .ok (.return_, 1) := by decide +kernel
theorem dX8_readingOf_0 : decode cX8_readingOf 0 = .ok (.iload_n 1, 1) := by decide +kernel
theorem dX8_readingOf_1 : decode cX8_readingOf 1 = .ok (.ifCond .ne 10, 3) := by decide +kernel
theorem dX8_readingOf_4 : decode cX8_readingOf 4 = .ok (.aload_n 0, 1) := by decide +kernel
theorem dX8_readingOf_5 : decode cX8_readingOf 5 = .ok (.getfield 42, 3) := by decide +kernel
theorem dX8_readingOf_8 : decode cX8_readingOf 8 = .ok (.goto 7, 3) := by decide +kernel
theorem dX8_readingOf_11 : decode cX8_readingOf 11 = .ok (.aload_n 0, 1) := by decide +kernel
theorem dX8_readingOf_12 : decode cX8_readingOf 12 = .ok (.getfield 46, 3) := by decide +kernel
theorem dX8_readingOf_15 : decode cX8_readingOf 15 = .ok (.areturn, 1) := by decide +kernel
theorem dX8_read_0 : decode cX8_read 0 = .ok (.aload_n 0, 1) := by decide +kernel
theorem dX8_read_1 : decode cX8_read 1 = .ok (.iload_n 1, 1) := by decide +kernel
theorem dX8_read_2 : decode cX8_read 2 = .ok (.invokevirtual 217, 3) := by decide +kernel
theorem dX8_read_5 : decode cX8_read 5 = .ok (.astore_n 2, 1) := by decide +kernel
theorem dX8_read_6 : decode cX8_read 6 = .ok (.aload_n 2, 1) := by decide +kernel
theorem dX8_read_7 : decode cX8_read 7 = .ok (.aload_n 0, 1) := by decide +kernel
theorem dX8_read_8 : decode cX8_read 8 = .ok (.getfield 10, 3) := by decide +kernel
theorem dX8_read_11 : decode cX8_read 11 = .ok (.aload_n 0, 1) := by decide +kernel
theorem dX8_read_12 : decode cX8_read 12 = .ok (.getfield 10, 3) := by decide +kernel
theorem dX8_read_15 : decode cX8_read 15 = .ok (.getfield 88, 3) := by decide +kernel
theorem dX8_read_18 : decode cX8_read 18 = .ok (.aload_n 0, 1) := by decide +kernel
theorem dX8_read_19 : decode cX8_read 19 = .ok (.getfield 10, 3) := by decide +kernel
theorem dX8_read_22 : decode cX8_read 22 = .ok (.getfield 91, 3) := by decide +kernel
theorem dX8_read_25 : decode cX8_read 25 = .ok (.invokevirtual 220, 3) := by decide +kernel
theorem dX8_read_28 : decode cX8_read 28 = .ok (.aload_n 2, 1) := by decide +kernel
theorem dX8_read_29 : decode cX8_read 29 = .ok (.areturn, 1) := by decide +kernel
theorem dX8_isKnownAsItself_0 : decode cX8_isKnownAsItself 0 = .ok (.iconst 0, 1) := by decide +kernel
theorem dX8_isKnownAsItself_1 : decode cX8_isKnownAsItself 1 = .ok (.aload_n 0, 1) := by decide +kernel
theorem dX8_isKnownAsItself_2 : decode cX8_isKnownAsItself 2 = .ok (.getfield 10, 3) := by decide +kernel
theorem dX8_isKnownAsItself_5 : decode cX8_isKnownAsItself 5 = .ok (.getfield 91, 3) := by decide +kernel
theorem dX8_isKnownAsItself_8 : decode cX8_isKnownAsItself 8 = .ok (.invokestatic 185, 3) := by decide +kernel
theorem dX8_isKnownAsItself_11 : decode cX8_isKnownAsItself 11 = .ok (.istore_n 2, 1) := by decide +kernel
theorem dX8_isKnownAsItself_12 : decode cX8_isKnownAsItself 12 = .ok (.iload_n 1, 1) := by decide +kernel
theorem dX8_isKnownAsItself_13 : decode cX8_isKnownAsItself 13 = .ok (.istore_n 3, 1) := by decide +kernel
theorem dX8_isKnownAsItself_14 : decode cX8_isKnownAsItself 14 = .ok (.iconst 0, 1) := by decide +kernel
theorem dX8_isKnownAsItself_15 : decode cX8_isKnownAsItself 15 = .ok (.istore 4, 2) := by decide +kernel
theorem dX8_isKnownAsItself_17 : decode cX8_isKnownAsItself 17 = .ok (.iload 4, 2) := by decide +kernel
theorem dX8_isKnownAsItself_19 : decode cX8_isKnownAsItself 19 = .ok (.iconst 4, 1) := by decide +kernel
theorem dX8_isKnownAsItself_20 : decode cX8_isKnownAsItself 20 = .ok (.if_icmp .ge 53, 3) := by decide +kernel
theorem dX8_isKnownAsItself_23 : decode cX8_isKnownAsItself 23 = .ok (.iload_n 3, 1) := by decide +kernel
theorem dX8_isKnownAsItself_24 : decode cX8_isKnownAsItself 24 = .ok (.bipush 10, 2) := by decide +kernel
theorem dX8_isKnownAsItself_26 : decode cX8_isKnownAsItself 26 = .ok (.if_icmp .lt 47, 3) := by decide +kernel
theorem dX8_isKnownAsItself_29 : decode cX8_isKnownAsItself 29 = .ok (.iload_n 3, 1) := by decide +kernel
theorem dX8_isKnownAsItself_30 : decode cX8_isKnownAsItself 30 = .ok (.bipush 10, 2) := by decide +kernel
theorem dX8_isKnownAsItself_32 : decode cX8_isKnownAsItself 32 = .ok (.irem, 1) := by decide +kernel
theorem dX8_isKnownAsItself_33 : decode cX8_isKnownAsItself 33 = .ok (.istore 5, 2) := by decide +kernel
theorem dX8_isKnownAsItself_35 : decode cX8_isKnownAsItself 35 = .ok (.aload_n 0, 1) := by decide +kernel
theorem dX8_isKnownAsItself_36 : decode cX8_isKnownAsItself 36 = .ok (.getfield 10, 3) := by decide +kernel
theorem dX8_isKnownAsItself_39 : decode cX8_isKnownAsItself 39 = .ok (.getfield 56, 3) := by decide +kernel
theorem dX8_isKnownAsItself_42 : decode cX8_isKnownAsItself 42 = .ok (.iload 5, 2) := by decide +kernel
theorem dX8_isKnownAsItself_44 : decode cX8_isKnownAsItself 44 = .ok (.iload_n 2, 1) := by decide +kernel
theorem dX8_isKnownAsItself_45 : decode cX8_isKnownAsItself 45 = .ok (.aload_n 0, 1) := by decide +kernel
theorem dX8_isKnownAsItself_46 : decode cX8_isKnownAsItself 46 = .ok (.getfield 10, 3) := by decide +kernel
theorem dX8_isKnownAsItself_49 : decode cX8_isKnownAsItself 49 = .ok (.getfield 88, 3) := by decide +kernel
theorem dX8_isKnownAsItself_52 : decode cX8_isKnownAsItself 52 = .ok (.invokevirtual 188, 3) := by decide +kernel
theorem dX8_isKnownAsItself_55 : decode cX8_isKnownAsItself 55 = .ok (.iload 5, 2) := by decide +kernel
theorem dX8_isKnownAsItself_57 : decode cX8_isKnownAsItself 57 = .ok (.if_icmp .eq 5, 3) := by decide +kernel
theorem dX8_isKnownAsItself_60 : decode cX8_isKnownAsItself 60 = .ok (.iconst 0, 1) := by decide +kernel
theorem dX8_isKnownAsItself_61 : decode cX8_isKnownAsItself 61 = .ok (.ireturn, 1) := by decide +kernel
theorem dX8_isKnownAsItself_62 : decode cX8_isKnownAsItself 62 = .ok (.iload_n 3, 1) := by decide +kernel
theorem dX8_isKnownAsItself_63 : decode cX8_isKnownAsItself 63 = .ok (.bipush 10, 2) := by decide +kernel
theorem dX8_isKnownAsItself_65 : decode cX8_isKnownAsItself 65 = .ok (.idiv, 1) := by decide +kernel
theorem dX8_isKnownAsItself_66 : decode cX8_isKnownAsItself 66 = .ok (.istore_n 3, 1) := by decide +kernel
theorem dX8_isKnownAsItself_67 : decode cX8_isKnownAsItself 67 = .ok (.iinc 4 1, 3) := by decide +kernel
theorem dX8_isKnownAsItself_70 : decode cX8_isKnownAsItself 70 = .ok (.goto (-53), 3) := by decide +kernel
theorem dX8_isKnownAsItself_73 : decode cX8_isKnownAsItself 73 = .ok (.iconst 1, 1) := by decide +kernel
theorem dX8_isKnownAsItself_74 : decode cX8_isKnownAsItself 74 = .ok (.ireturn, 1) := by decide +kernel
theorem dX8_isBelow_0 : decode cX8_isBelow 0 = .ok (.iload_n 0, 1) := by decide +kernel
theorem dX8_isBelow_1 : decode cX8_isBelow 1 = .ok (.ifCond .lt 12, 3) := by decide +kernel
theorem dX8_isBelow_4 : decode cX8_isBelow 4 = .ok (.iload_n 0, 1) := by decide +kernel
theorem dX8_isBelow_5 : decode cX8_isBelow 5 = .ok (.iload_n 1, 1) := by decide +kernel
theorem dX8_isBelow_6 : decode cX8_isBelow 6 = .ok (.if_icmp .ge 7, 3) := by decide +kernel
theorem dX8_isBelow_9 : decode cX8_isBelow 9 = .ok (.iconst 1, 1) := by decide +kernel
theorem dX8_isBelow_10 : decode cX8_isBelow 10 = .ok (.goto 4, 3) := by decide +kernel
theorem dX8_isBelow_13 : decode cX8_isBelow 13 = .ok (.iconst 0, 1) := by decide +kernel
theorem dX8_isBelow_14 : decode cX8_isBelow 14 = .ok (.ireturn, 1) := by decide +kernel
theorem dX8_isHoistFirst_0 : decode cX8_isHoistFirst 0 = .ok (.iload_n 0, 1) := by decide +kernel
theorem dX8_isHoistFirst_1 : decode cX8_isHoistFirst 1 = .ok (.iload_n 1, 1) := by decide +kernel
theorem dX8_isHoistFirst_2 : decode cX8_isHoistFirst 2 = .ok (.if_icmp .ne 7, 3) := by decide +kernel
theorem dX8_isHoistFirst_5 : decode cX8_isHoistFirst 5 = .ok (.iconst 1, 1) := by decide +kernel
theorem dX8_isHoistFirst_6 : decode cX8_isHoistFirst 6 = .ok (.goto 4, 3) := by decide +kernel
theorem dX8_isHoistFirst_9 : decode cX8_isHoistFirst 9 = .ok (.iconst 0, 1) := by decide +kernel
theorem dX8_isHoistFirst_10 : decode cX8_isHoistFirst 10 = .ok (.ireturn, 1) := by decide +kernel
theorem dX8_isSign_0 : decode cX8_isSign 0 = .ok (.iload_n 0, 1) := by decide +kernel
theorem dX8_isSign_1 : decode cX8_isSign 1 = .ok (.bipush 10, 2) := by decide +kernel
theorem dX8_isSign_3 : decode cX8_isSign 3 = .ok (.invokestatic 49, 3) := by decide +kernel
theorem dX8_isSign_6 : decode cX8_isSign 6 = .ok (.ifCond .ne 15, 3) := by decide +kernel
theorem dX8_isSign_9 : decode cX8_isSign 9 = .ok (.iload_n 0, 1) := by decide +kernel
theorem dX8_isSign_10 : decode cX8_isSign 10 = .ok (.bipush 10, 2) := by decide +kernel
theorem dX8_isSign_12 : decode cX8_isSign 12 = .ok (.if_icmp .le 13, 3) := by decide +kernel
theorem dX8_isSign_15 : decode cX8_isSign 15 = .ok (.iload_n 0, 1) := by decide +kernel
theorem dX8_isSign_16 : decode cX8_isSign 16 = .ok (.bipush 13, 2) := by decide +kernel
theorem dX8_isSign_18 : decode cX8_isSign 18 = .ok (.if_icmp .gt 7, 3) := by decide +kernel
theorem dX8_isSign_21 : decode cX8_isSign 21 = .ok (.iconst 1, 1) := by decide +kernel
theorem dX8_isSign_22 : decode cX8_isSign 22 = .ok (.goto 4, 3) := by decide +kernel
theorem dX8_isSign_25 : decode cX8_isSign 25 = .ok (.iconst 0, 1) := by decide +kernel
theorem dX8_isSign_26 : decode cX8_isSign 26 = .ok (.ireturn, 1) := by decide +kernel
theorem dX8_isFlagsNumber_0 : decode cX8_isFlagsNumber 0 = .ok (.bipush 10, 2) := by decide +kernel
theorem dX8_isFlagsNumber_2 : decode cX8_isFlagsNumber 2 = .ok (.istore_n 1, 1) := by decide +kernel
theorem dX8_isFlagsNumber_3 : decode cX8_isFlagsNumber 3 = .ok (.iconst 1, 1) := by decide +kernel
theorem dX8_isFlagsNumber_4 : decode cX8_isFlagsNumber 4 = .ok (.istore_n 2, 1) := by decide +kernel
theorem dX8_isFlagsNumber_5 : decode cX8_isFlagsNumber 5 = .ok (.iload_n 2, 1) := by decide +kernel
theorem dX8_isFlagsNumber_6 : decode cX8_isFlagsNumber 6 = .ok (.iconst 4, 1) := by decide +kernel
theorem dX8_isFlagsNumber_7 : decode cX8_isFlagsNumber 7 = .ok (.if_icmp .gt 28, 3) := by decide +kernel
theorem dX8_isFlagsNumber_10 : decode cX8_isFlagsNumber 10 = .ok (.iload_n 0, 1) := by decide +kernel
theorem dX8_isFlagsNumber_11 : decode cX8_isFlagsNumber 11 = .ok (.iload_n 1, 1) := by decide +kernel
theorem dX8_isFlagsNumber_12 : decode cX8_isFlagsNumber 12 = .ok (.if_icmp .lt 12, 3) := by decide +kernel
theorem dX8_isFlagsNumber_15 : decode cX8_isFlagsNumber 15 = .ok (.iload_n 0, 1) := by decide +kernel
theorem dX8_isFlagsNumber_16 : decode cX8_isFlagsNumber 16 = .ok (.iconst 2, 1) := by decide +kernel
theorem dX8_isFlagsNumber_17 : decode cX8_isFlagsNumber 17 = .ok (.iload_n 1, 1) := by decide +kernel
theorem dX8_isFlagsNumber_18 : decode cX8_isFlagsNumber 18 = .ok (.imul, 1) := by decide +kernel
theorem dX8_isFlagsNumber_19 : decode cX8_isFlagsNumber 19 = .ok (.if_icmp .ge 5, 3) := by decide +kernel
theorem dX8_isFlagsNumber_22 : decode cX8_isFlagsNumber 22 = .ok (.iconst 1, 1) := by decide +kernel
theorem dX8_isFlagsNumber_23 : decode cX8_isFlagsNumber 23 = .ok (.ireturn, 1) := by decide +kernel
theorem dX8_isFlagsNumber_24 : decode cX8_isFlagsNumber 24 = .ok (.iload_n 1, 1) := by decide +kernel
theorem dX8_isFlagsNumber_25 : decode cX8_isFlagsNumber 25 = .ok (.bipush 10, 2) := by decide +kernel
theorem dX8_isFlagsNumber_27 : decode cX8_isFlagsNumber 27 = .ok (.imul, 1) := by decide +kernel
theorem dX8_isFlagsNumber_28 : decode cX8_isFlagsNumber 28 = .ok (.istore_n 1, 1) := by decide +kernel
theorem dX8_isFlagsNumber_29 : decode cX8_isFlagsNumber 29 = .ok (.iinc 2 1, 3) := by decide +kernel
theorem dX8_isFlagsNumber_32 : decode cX8_isFlagsNumber 32 = .ok (.goto (-27), 3) := by decide +kernel
theorem dX8_isFlagsNumber_35 : decode cX8_isFlagsNumber 35 = .ok (.iconst 0, 1) := by decide +kernel
theorem dX8_isFlagsNumber_36 : decode cX8_isFlagsNumber 36 = .ok (.ireturn, 1) := by decide +kernel
theorem dX8_lengthOf_0 : decode cX8_lengthOf 0 = .ok (.iconst 0, 1) := by decide +kernel
theorem dX8_lengthOf_1 : decode cX8_lengthOf 1 = .ok (.istore_n 1, 1) := by decide +kernel
theorem dX8_lengthOf_2 : decode cX8_lengthOf 2 = .ok (.iload_n 0, 1) := by decide +kernel
theorem dX8_lengthOf_3 : decode cX8_lengthOf 3 = .ok (.istore_n 2, 1) := by decide +kernel
theorem dX8_lengthOf_4 : decode cX8_lengthOf 4 = .ok (.iload_n 1, 1) := by decide +kernel
theorem dX8_lengthOf_5 : decode cX8_lengthOf 5 = .ok (.iconst 4, 1) := by decide +kernel
theorem dX8_lengthOf_6 : decode cX8_lengthOf 6 = .ok (.if_icmp .ge 20, 3) := by decide +kernel
theorem dX8_lengthOf_9 : decode cX8_lengthOf 9 = .ok (.iload_n 2, 1) := by decide +kernel
theorem dX8_lengthOf_10 : decode cX8_lengthOf 10 = .ok (.bipush 10, 2) := by decide +kernel
theorem dX8_lengthOf_12 : decode cX8_lengthOf 12 = .ok (.if_icmp .lt 14, 3) := by decide +kernel
theorem dX8_lengthOf_15 : decode cX8_lengthOf 15 = .ok (.iload_n 2, 1) := by decide +kernel
theorem dX8_lengthOf_16 : decode cX8_lengthOf 16 = .ok (.bipush 10, 2) := by decide +kernel
theorem dX8_lengthOf_18 : decode cX8_lengthOf 18 = .ok (.idiv, 1) := by decide +kernel
theorem dX8_lengthOf_19 : decode cX8_lengthOf 19 = .ok (.istore_n 2, 1) := by decide +kernel
theorem dX8_lengthOf_20 : decode cX8_lengthOf 20 = .ok (.iinc 1 1, 3) := by decide +kernel
theorem dX8_lengthOf_23 : decode cX8_lengthOf 23 = .ok (.goto (-19), 3) := by decide +kernel
theorem dX8_lengthOf_26 : decode cX8_lengthOf 26 = .ok (.iload_n 1, 1) := by decide +kernel
theorem dX8_lengthOf_27 : decode cX8_lengthOf 27 = .ok (.ireturn, 1) := by decide +kernel
theorem dX9_init_0 : decode cX9_init 0 = .ok (.aload_n 0, 1) := by decide +kernel
theorem dX9_init_1 : decode cX9_init 1 = .ok (.invokespecial 1, 3) := by decide +kernel
theorem dX9_init_4 : decode cX9_init 4 = .ok (.aload_n 0, 1) := by decide +kernel
theorem dX9_init_5 : decode cX9_init 5 = .ok (.sipush 136, 3) := by decide +kernel
theorem dX9_init_8 : decode cX9_init 8 = .ok (.newarray .int, 2) := by decide +kernel
theorem dX9_init_10 : decode cX9_init 10 = .ok (.putfield 7, 3) := by decide +kernel
theorem dX9_init_13 : decode cX9_init 13 = .ok (.aload_n 0, 1) := by decide +kernel
theorem dX9_init_14 : decode cX9_init 14 = .ok (.sipush 680, 3) := by decide +kernel
theorem dX9_init_17 : decode cX9_init 17 = .ok (.newarray .int, 2) := by decide +kernel
theorem dX9_init_19 : decode cX9_init 19 = .ok (.putfield 13, 3) := by decide +kernel
theorem dX9_init_22 : decode cX9_init 22 = .ok (.aload_n 0, 1) := by decide +kernel
theorem dX9_init_23 : decode cX9_init 23 = .ok (.sipush 136, 3) := by decide +kernel
theorem dX9_init_26 : decode cX9_init 26 = .ok (.newarray .int, 2) := by decide +kernel
theorem dX9_init_28 : decode cX9_init 28 = .ok (.putfield 16, 3) := by decide +kernel
theorem dX9_init_31 : decode cX9_init 31 = .ok (.aload_n 0, 1) := by decide +kernel
theorem dX9_init_32 : decode cX9_init 32 = .ok (.bipush 50, 2) := by decide +kernel
theorem dX9_init_34 : decode cX9_init 34 = .ok (.newarray .char, 2) := by decide +kernel
theorem dX9_init_36 : decode cX9_init 36 = .ok (.putfield 19, 3) := by decide +kernel
theorem dX9_init_39 : decode cX9_init 39 = .ok (.aload_n 0, 1) := by decide +kernel
theorem dX9_init_40 : decode cX9_init 40 = .ok (.bipush 25, 2) := by decide +kernel
theorem dX9_init_42 : decode cX9_init 42 = .ok (.newarray .int, 2) := by decide +kernel
theorem dX9_init_44 : decode cX9_init 44 = .ok (.putfield 23, 3) := by decide +kernel
theorem dX9_init_47 : decode cX9_init 47 = .ok (.aload_n 0, 1) := by decide +kernel
theorem dX9_init_48 : decode cX9_init 48 = .ok (.getfield 7, 3) := by decide +kernel
theorem dX9_init_51 : decode cX9_init 51 = .ok (.iconst 0, 1) := by decide +kernel
theorem dX9_init_52 : decode cX9_init 52 = .ok (.iconst 1, 1) := by decide +kernel
theorem dX9_init_53 : decode cX9_init 53 = .ok (.iastore, 1) := by decide +kernel
theorem dX9_init_54 : decode cX9_init 54 = .ok (.aload_n 0, 1) := by decide +kernel
theorem dX9_init_55 : decode cX9_init 55 = .ok (.getfield 7, 3) := by decide +kernel
theorem dX9_init_58 : decode cX9_init 58 = .ok (.iconst 1, 1) := by decide +kernel
theorem dX9_init_59 : decode cX9_init 59 = .ok (.iconst 5, 1) := by decide +kernel
theorem dX9_init_60 : decode cX9_init 60 = .ok (.iastore, 1) := by decide +kernel
theorem dX9_init_61 : decode cX9_init 61 = .ok (.iconst 0, 1) := by decide +kernel
theorem dX9_init_62 : decode cX9_init 62 = .ok (.istore_n 1, 1) := by decide +kernel
theorem dX9_init_63 : decode cX9_init 63 = .ok (.iload_n 1, 1) := by decide +kernel
theorem dX9_init_64 : decode cX9_init 64 = .ok (.bipush 10, 2) := by decide +kernel
theorem dX9_init_66 : decode cX9_init 66 = .ok (.if_icmp .ge 61, 3) := by decide +kernel
theorem dX9_init_69 : decode cX9_init 69 = .ok (.aload_n 0, 1) := by decide +kernel
theorem dX9_init_70 : decode cX9_init 70 = .ok (.getfield 7, 3) := by decide +kernel
theorem dX9_init_73 : decode cX9_init 73 = .ok (.bipush 8, 2) := by decide +kernel
theorem dX9_init_75 : decode cX9_init 75 = .ok (.iconst 3, 1) := by decide +kernel
theorem dX9_init_76 : decode cX9_init 76 = .ok (.iload_n 1, 1) := by decide +kernel
theorem dX9_init_77 : decode cX9_init 77 = .ok (.imul, 1) := by decide +kernel
theorem dX9_init_78 : decode cX9_init 78 = .ok (.iadd, 1) := by decide +kernel
theorem dX9_init_79 : decode cX9_init 79 = .ok (.iload_n 1, 1) := by decide +kernel
theorem dX9_init_80 : decode cX9_init 80 = .ok (.bipush 8, 2) := by decide +kernel
theorem dX9_init_82 : decode cX9_init 82 = .ok (.irem, 1) := by decide +kernel
theorem dX9_init_83 : decode cX9_init 83 = .ok (.iastore, 1) := by decide +kernel
theorem dX9_init_84 : decode cX9_init 84 = .ok (.aload_n 0, 1) := by decide +kernel
theorem dX9_init_85 : decode cX9_init 85 = .ok (.getfield 7, 3) := by decide +kernel
theorem dX9_init_88 : decode cX9_init 88 = .ok (.bipush 8, 2) := by decide +kernel
theorem dX9_init_90 : decode cX9_init 90 = .ok (.iconst 3, 1) := by decide +kernel
theorem dX9_init_91 : decode cX9_init 91 = .ok (.iload_n 1, 1) := by decide +kernel
theorem dX9_init_92 : decode cX9_init 92 = .ok (.imul, 1) := by decide +kernel
theorem dX9_init_93 : decode cX9_init 93 = .ok (.iadd, 1) := by decide +kernel
theorem dX9_init_94 : decode cX9_init 94 = .ok (.iconst 1, 1) := by decide +kernel
theorem dX9_init_95 : decode cX9_init 95 = .ok (.iadd, 1) := by decide +kernel
theorem dX9_init_96 : decode cX9_init 96 = .ok (.iconst 3, 1) := by decide +kernel
theorem dX9_init_97 : decode cX9_init 97 = .ok (.iload_n 1, 1) := by decide +kernel
theorem dX9_init_98 : decode cX9_init 98 = .ok (.imul, 1) := by decide +kernel
theorem dX9_init_99 : decode cX9_init 99 = .ok (.iconst 1, 1) := by decide +kernel
theorem dX9_init_100 : decode cX9_init 100 = .ok (.iadd, 1) := by decide +kernel
theorem dX9_init_101 : decode cX9_init 101 = .ok (.bipush 8, 2) := by decide +kernel
theorem dX9_init_103 : decode cX9_init 103 = .ok (.irem, 1) := by decide +kernel
theorem dX9_init_104 : decode cX9_init 104 = .ok (.iastore, 1) := by decide +kernel
theorem dX9_init_105 : decode cX9_init 105 = .ok (.aload_n 0, 1) := by decide +kernel
theorem dX9_init_106 : decode cX9_init 106 = .ok (.getfield 7, 3) := by decide +kernel
theorem dX9_init_109 : decode cX9_init 109 = .ok (.bipush 8, 2) := by decide +kernel
theorem dX9_init_111 : decode cX9_init 111 = .ok (.iconst 3, 1) := by decide +kernel
theorem dX9_init_112 : decode cX9_init 112 = .ok (.iload_n 1, 1) := by decide +kernel
theorem dX9_init_113 : decode cX9_init 113 = .ok (.imul, 1) := by decide +kernel
theorem dX9_init_114 : decode cX9_init 114 = .ok (.iadd, 1) := by decide +kernel
theorem dX9_init_115 : decode cX9_init 115 = .ok (.iconst 2, 1) := by decide +kernel
theorem dX9_init_116 : decode cX9_init 116 = .ok (.iadd, 1) := by decide +kernel
theorem dX9_init_117 : decode cX9_init 117 = .ok (.iload_n 1, 1) := by decide +kernel
theorem dX9_init_118 : decode cX9_init 118 = .ok (.iconst 2, 1) := by decide +kernel
theorem dX9_init_119 : decode cX9_init 119 = .ok (.idiv, 1) := by decide +kernel
theorem dX9_init_120 : decode cX9_init 120 = .ok (.iastore, 1) := by decide +kernel
theorem dX9_init_121 : decode cX9_init 121 = .ok (.iinc 1 1, 3) := by decide +kernel
theorem dX9_init_124 : decode cX9_init 124 = .ok (.goto (-61), 3) := by decide +kernel
theorem dX9_init_127 : decode cX9_init 127 = .ok (.return_, 1) := by decide +kernel
theorem dX9_in_0 : decode cX9_in 0 = .ok (.iload_n 0, 1) := by decide +kernel
theorem dX9_in_1 : decode cX9_in 1 = .ok (.iload_n 1, 1) := by decide +kernel
theorem dX9_in_2 : decode cX9_in 2 = .ok (.if_icmp .lt 12, 3) := by decide +kernel
theorem dX9_in_5 : decode cX9_in 5 = .ok (.iload_n 0, 1) := by decide +kernel
theorem dX9_in_6 : decode cX9_in 6 = .ok (.iload_n 2, 1) := by decide +kernel
theorem dX9_in_7 : decode cX9_in 7 = .ok (.if_icmp .gt 7, 3) := by decide +kernel
theorem dX9_in_10 : decode cX9_in 10 = .ok (.iconst 1, 1) := by decide +kernel
theorem dX9_in_11 : decode cX9_in 11 = .ok (.goto 4, 3) := by decide +kernel
theorem dX9_in_14 : decode cX9_in 14 = .ok (.iconst 0, 1) := by decide +kernel
theorem dX9_in_15 : decode cX9_in 15 = .ok (.ireturn, 1) := by decide +kernel
theorem dX9_isFlag_0 : decode cX9_isFlag 0 = .ok (.iload_n 0, 1) := by decide +kernel
theorem dX9_isFlag_1 : decode cX9_isFlag 1 = .ok (.iconst 0, 1) := by decide +kernel
theorem dX9_isFlag_2 : decode cX9_isFlag 2 = .ok (.bipush 9, 2) := by decide +kernel
theorem dX9_isFlag_4 : decode cX9_isFlag 4 = .ok (.invokestatic 26, 3) := by decide +kernel
theorem dX9_isFlag_7 : decode cX9_isFlag 7 = .ok (.ireturn, 1) := by decide +kernel
theorem dX9_isHalyard_0 : decode cX9_isHalyard 0 = .ok (.iload_n 0, 1) := by decide +kernel
theorem dX9_isHalyard_1 : decode cX9_isHalyard 1 = .ok (.iconst 0, 1) := by decide +kernel
theorem dX9_isHalyard_2 : decode cX9_isHalyard 2 = .ok (.iconst 4, 1) := by decide +kernel
theorem dX9_isHalyard_3 : decode cX9_isHalyard 3 = .ok (.invokestatic 26, 3) := by decide +kernel
theorem dX9_isHalyard_6 : decode cX9_isHalyard 6 = .ok (.ireturn, 1) := by decide +kernel
theorem dX9_isSide_0 : decode cX9_isSide 0 = .ok (.iload_n 0, 1) := by decide +kernel
theorem dX9_isSide_1 : decode cX9_isSide 1 = .ok (.iconst 0, 1) := by decide +kernel
theorem dX9_isSide_2 : decode cX9_isSide 2 = .ok (.iconst 1, 1) := by decide +kernel
theorem dX9_isSide_3 : decode cX9_isSide 3 = .ok (.invokestatic 26, 3) := by decide +kernel
theorem dX9_isSide_6 : decode cX9_isSide 6 = .ok (.ireturn, 1) := by decide +kernel
theorem dX9_ofFlag_0 : decode cX9_ofFlag 0 = .ok (.aload_n 0, 1) := by decide +kernel
theorem dX9_ofFlag_1 : decode cX9_ofFlag 1 = .ok (.getfield 7, 3) := by decide +kernel
theorem dX9_ofFlag_4 : decode cX9_ofFlag 4 = .ok (.bipush 8, 2) := by decide +kernel
theorem dX9_ofFlag_6 : decode cX9_ofFlag 6 = .ok (.iconst 3, 1) := by decide +kernel
theorem dX9_ofFlag_7 : decode cX9_ofFlag 7 = .ok (.iload_n 1, 1) := by decide +kernel
theorem dX9_ofFlag_8 : decode cX9_ofFlag 8 = .ok (.imul, 1) := by decide +kernel
theorem dX9_ofFlag_9 : decode cX9_ofFlag 9 = .ok (.iadd, 1) := by decide +kernel
theorem dX9_ofFlag_10 : decode cX9_ofFlag 10 = .ok (.iload_n 2, 1) := by decide +kernel
theorem dX9_ofFlag_11 : decode cX9_ofFlag 11 = .ok (.iadd, 1) := by decide +kernel
theorem dX9_ofFlag_12 : decode cX9_ofFlag 12 = .ok (.iaload, 1) := by decide +kernel
theorem dX9_ofFlag_13 : decode cX9_ofFlag 13 = .ok (.ireturn, 1) := by decide +kernel
theorem dX9_many_0 : decode cX9_many 0 = .ok (.aload_n 0, 1) := by decide +kernel
theorem dX9_many_1 : decode cX9_many 1 = .ok (.getfield 7, 3) := by decide +kernel
theorem dX9_many_4 : decode cX9_many 4 = .ok (.bipush 38, 2) := by decide +kernel
theorem dX9_many_6 : decode cX9_many 6 = .ok (.iconst 5, 1) := by decide +kernel
theorem dX9_many_7 : decode cX9_many 7 = .ok (.iload_n 1, 1) := by decide +kernel
theorem dX9_many_8 : decode cX9_many 8 = .ok (.imul, 1) := by decide +kernel
theorem dX9_many_9 : decode cX9_many 9 = .ok (.iadd, 1) := by decide +kernel
theorem dX9_many_10 : decode cX9_many 10 = .ok (.iaload, 1) := by decide +kernel
theorem dX9_many_11 : decode cX9_many 11 = .ok (.ireturn, 1) := by decide +kernel
theorem dX9_signOn_0 : decode cX9_signOn 0 = .ok (.aload_n 0, 1) := by decide +kernel
theorem dX9_signOn_1 : decode cX9_signOn 1 = .ok (.getfield 7, 3) := by decide +kernel
theorem dX9_signOn_4 : decode cX9_signOn 4 = .ok (.bipush 38, 2) := by decide +kernel
theorem dX9_signOn_6 : decode cX9_signOn 6 = .ok (.iconst 5, 1) := by decide +kernel
theorem dX9_signOn_7 : decode cX9_signOn 7 = .ok (.iload_n 1, 1) := by decide +kernel
theorem dX9_signOn_8 : decode cX9_signOn 8 = .ok (.imul, 1) := by decide +kernel
theorem dX9_signOn_9 : decode cX9_signOn 9 = .ok (.iadd, 1) := by decide +kernel
theorem dX9_signOn_10 : decode cX9_signOn 10 = .ok (.iload_n 2, 1) := by decide +kernel
theorem dX9_signOn_11 : decode cX9_signOn 11 = .ok (.iadd, 1) := by decide +kernel
theorem dX9_signOn_12 : decode cX9_signOn 12 = .ok (.iaload, 1) := by decide +kernel
theorem dX9_signOn_13 : decode cX9_signOn 13 = .ok (.ireturn, 1) := by decide +kernel
theorem dX9_record_0 : decode cX9_record 0 = .ok (.aload_n 0, 1) := by decide +kernel
theorem dX9_record_1 : decode cX9_record 1 = .ok (.getfield 30, 3) := by decide +kernel
theorem dX9_record_4 : decode cX9_record 4 = .ok (.iconst 5, 1) := by decide +kernel
theorem dX9_record_5 : decode cX9_record 5 = .ok (.if_icmp .ne 44, 3) := by decide +kernel
theorem dX9_record_8 : decode cX9_record 8 = .ok (.iconst 0, 1) := by decide +kernel
theorem dX9_record_9 : decode cX9_record 9 = .ok (.istore_n 1, 1) := by decide +kernel
theorem dX9_record_10 : decode cX9_record 10 = .ok (.iload_n 1, 1) := by decide +kernel
theorem dX9_record_11 : decode cX9_record 11 = .ok (.sipush 544, 3) := by decide +kernel
theorem dX9_record_14 : decode cX9_record 14 = .ok (.if_icmp .ge 25, 3) := by decide +kernel
theorem dX9_record_17 : decode cX9_record 17 = .ok (.aload_n 0, 1) := by decide +kernel
theorem dX9_record_18 : decode cX9_record 18 = .ok (.getfield 13, 3) := by decide +kernel
theorem dX9_record_21 : decode cX9_record 21 = .ok (.iload_n 1, 1) := by decide +kernel
theorem dX9_record_22 : decode cX9_record 22 = .ok (.aload_n 0, 1) := by decide +kernel
theorem dX9_record_23 : decode cX9_record 23 = .ok (.getfield 13, 3) := by decide +kernel
theorem dX9_record_26 : decode cX9_record 26 = .ok (.iload_n 1, 1) := by decide +kernel
theorem dX9_record_27 : decode cX9_record 27 = .ok (.sipush 136, 3) := by decide +kernel
theorem dX9_record_30 : decode cX9_record 30 = .ok (.iadd, 1) := by decide +kernel
theorem dX9_record_31 : decode cX9_record 31 = .ok (.iaload, 1) := by decide +kernel
theorem dX9_record_32 : decode cX9_record 32 = .ok (.iastore, 1) := by decide +kernel
theorem dX9_record_33 : decode cX9_record 33 = .ok (.iinc 1 1, 3) := by decide +kernel
theorem dX9_record_36 : decode cX9_record 36 = .ok (.goto (-26), 3) := by decide +kernel
theorem dX9_record_39 : decode cX9_record 39 = .ok (.aload_n 0, 1) := by decide +kernel
theorem dX9_record_40 : decode cX9_record 40 = .ok (.dup, 1) := by decide +kernel
theorem dX9_record_41 : decode cX9_record 41 = .ok (.getfield 30, 3) := by decide +kernel
theorem dX9_record_44 : decode cX9_record 44 = .ok (.iconst 1, 1) := by decide +kernel
theorem dX9_record_45 : decode cX9_record 45 = .ok (.isub, 1) := by decide +kernel
theorem dX9_record_46 : decode cX9_record 46 = .ok (.putfield 30, 3) := by decide +kernel
theorem dX9_record_49 : decode cX9_record 49 = .ok (.iconst 0, 1) := by decide +kernel
theorem dX9_record_50 : decode cX9_record 50 = .ok (.istore_n 1, 1) := by decide +kernel
theorem dX9_record_51 : decode cX9_record 51 = .ok (.iload_n 1, 1) := by decide +kernel
theorem dX9_record_52 : decode cX9_record 52 = .ok (.sipush 136, 3) := by decide +kernel
theorem dX9_record_55 : decode cX9_record 55 = .ok (.if_icmp .ge 30, 3) := by decide +kernel
theorem dX9_record_58 : decode cX9_record 58 = .ok (.aload_n 0, 1) := by decide +kernel
theorem dX9_record_59 : decode cX9_record 59 = .ok (.getfield 13, 3) := by decide +kernel
theorem dX9_record_62 : decode cX9_record 62 = .ok (.aload_n 0, 1) := by decide +kernel
theorem dX9_record_63 : decode cX9_record 63 = .ok (.getfield 30, 3) := by decide +kernel
theorem dX9_record_66 : decode cX9_record 66 = .ok (.sipush 136, 3) := by decide +kernel
theorem dX9_record_69 : decode cX9_record 69 = .ok (.imul, 1) := by decide +kernel
theorem dX9_record_70 : decode cX9_record 70 = .ok (.iload_n 1, 1) := by decide +kernel
theorem dX9_record_71 : decode cX9_record 71 = .ok (.iadd, 1) := by decide +kernel
theorem dX9_record_72 : decode cX9_record 72 = .ok (.aload_n 0, 1) := by decide +kernel
theorem dX9_record_73 : decode cX9_record 73 = .ok (.getfield 7, 3) := by decide +kernel
theorem dX9_record_76 : decode cX9_record 76 = .ok (.iload_n 1, 1) := by decide +kernel
theorem dX9_record_77 : decode cX9_record 77 = .ok (.iaload, 1) := by decide +kernel
theorem dX9_record_78 : decode cX9_record 78 = .ok (.iastore, 1) := by decide +kernel
theorem dX9_record_79 : decode cX9_record 79 = .ok (.iinc 1 1, 3) := by decide +kernel
theorem dX9_record_82 : decode cX9_record 82 = .ok (.goto (-31), 3) := by decide +kernel
theorem dX9_record_85 : decode cX9_record 85 = .ok (.aload_n 0, 1) := by decide +kernel
theorem dX9_record_86 : decode cX9_record 86 = .ok (.dup, 1) := by decide +kernel
theorem dX9_record_87 : decode cX9_record 87 = .ok (.getfield 30, 3) := by decide +kernel
theorem dX9_record_90 : decode cX9_record 90 = .ok (.iconst 1, 1) := by decide +kernel
theorem dX9_record_91 : decode cX9_record 91 = .ok (.iadd, 1) := by decide +kernel
theorem dX9_record_92 : decode cX9_record 92 = .ok (.putfield 30, 3) := by decide +kernel
theorem dX9_record_95 : decode cX9_record 95 = .ok (.return_, 1) := by decide +kernel
theorem dX9_recordAndDown_0 : decode cX9_recordAndDown 0 = .ok (.aload_n 0, 1) := by decide +kernel
theorem dX9_recordAndDown_1 : decode cX9_recordAndDown 1 = .ok (.invokevirtual 34, 3) := by decide +kernel
theorem dX9_recordAndDown_4 : decode cX9_recordAndDown 4 = .ok (.aload_n 0, 1) := by decide +kernel
theorem dX9_recordAndDown_5 : decode cX9_recordAndDown 5 = .ok (.getfield 7, 3) := by decide +kernel
theorem dX9_recordAndDown_8 : decode cX9_recordAndDown 8 = .ok (.iconst 4, 1) := by decide +kernel
theorem dX9_recordAndDown_9 : decode cX9_recordAndDown 9 = .ok (.iconst 0, 1) := by decide +kernel
theorem dX9_recordAndDown_10 : decode cX9_recordAndDown 10 = .ok (.iastore, 1) := by decide +kernel
theorem dX9_recordAndDown_11 : decode cX9_recordAndDown 11 = .ok (.return_, 1) := by decide +kernel
theorem dX9_undo_0 : decode cX9_undo 0 = .ok (.aload_n 0, 1) := by decide +kernel
theorem dX9_undo_1 : decode cX9_undo 1 = .ok (.getfield 30, 3) := by decide +kernel
theorem dX9_undo_4 : decode cX9_undo 4 = .ok (.ifCond .ne 6, 3) := by decide +kernel
theorem dX9_undo_7 : decode cX9_undo 7 = .ok (.bipush (-3), 2) := by decide +kernel
theorem dX9_undo_9 : decode cX9_undo 9 = .ok (.ireturn, 1) := by decide +kernel
theorem dX9_undo_10 : decode cX9_undo 10 = .ok (.aload_n 0, 1) := by decide +kernel
theorem dX9_undo_11 : decode cX9_undo 11 = .ok (.dup, 1) := by decide +kernel
theorem dX9_undo_12 : decode cX9_undo 12 = .ok (.getfield 30, 3) := by decide +kernel
theorem dX9_undo_15 : decode cX9_undo 15 = .ok (.iconst 1, 1) := by decide +kernel
theorem dX9_undo_16 : decode cX9_undo 16 = .ok (.isub, 1) := by decide +kernel
theorem dX9_undo_17 : decode cX9_undo 17 = .ok (.putfield 30, 3) := by decide +kernel
theorem dX9_undo_20 : decode cX9_undo 20 = .ok (.iconst 0, 1) := by decide +kernel
theorem dX9_undo_21 : decode cX9_undo 21 = .ok (.istore_n 1, 1) := by decide +kernel
theorem dX9_undo_22 : decode cX9_undo 22 = .ok (.iload_n 1, 1) := by decide +kernel
theorem dX9_undo_23 : decode cX9_undo 23 = .ok (.sipush 136, 3) := by decide +kernel
theorem dX9_undo_26 : decode cX9_undo 26 = .ok (.if_icmp .ge 30, 3) := by decide +kernel
theorem dX9_undo_29 : decode cX9_undo 29 = .ok (.aload_n 0, 1) := by decide +kernel
theorem dX9_undo_30 : decode cX9_undo 30 = .ok (.getfield 7, 3) := by decide +kernel
theorem dX9_undo_33 : decode cX9_undo 33 = .ok (.iload_n 1, 1) := by decide +kernel
theorem dX9_undo_34 : decode cX9_undo 34 = .ok (.aload_n 0, 1) := by decide +kernel
theorem dX9_undo_35 : decode cX9_undo 35 = .ok (.getfield 13, 3) := by decide +kernel
theorem dX9_undo_38 : decode cX9_undo 38 = .ok (.aload_n 0, 1) := by decide +kernel
theorem dX9_undo_39 : decode cX9_undo 39 = .ok (.getfield 30, 3) := by decide +kernel
theorem dX9_undo_42 : decode cX9_undo 42 = .ok (.sipush 136, 3) := by decide +kernel
theorem dX9_undo_45 : decode cX9_undo 45 = .ok (.imul, 1) := by decide +kernel
theorem dX9_undo_46 : decode cX9_undo 46 = .ok (.iload_n 1, 1) := by decide +kernel
theorem dX9_undo_47 : decode cX9_undo 47 = .ok (.iadd, 1) := by decide +kernel
theorem dX9_undo_48 : decode cX9_undo 48 = .ok (.iaload, 1) := by decide +kernel
theorem dX9_undo_49 : decode cX9_undo 49 = .ok (.iastore, 1) := by decide +kernel
theorem dX9_undo_50 : decode cX9_undo 50 = .ok (.iinc 1 1, 3) := by decide +kernel
theorem dX9_undo_53 : decode cX9_undo 53 = .ok (.goto (-31), 3) := by decide +kernel
theorem dX9_undo_56 : decode cX9_undo 56 = .ok (.aload_n 0, 1) := by decide +kernel
theorem dX9_undo_57 : decode cX9_undo 57 = .ok (.getfield 30, 3) := by decide +kernel
theorem dX9_undo_60 : decode cX9_undo 60 = .ok (.ireturn, 1) := by decide +kernel
theorem dX9_allSigns_0 : decode cX9_allSigns 0 = .ok (.iconst 0, 1) := by decide +kernel
theorem dX9_allSigns_1 : decode cX9_allSigns 1 = .ok (.istore_n 1, 1) := by decide +kernel
theorem dX9_allSigns_2 : decode cX9_allSigns 2 = .ok (.iconst 0, 1) := by decide +kernel
theorem dX9_allSigns_3 : decode cX9_allSigns 3 = .ok (.istore_n 2, 1) := by decide +kernel
theorem dX9_allSigns_4 : decode cX9_allSigns 4 = .ok (.iload_n 2, 1) := by decide +kernel
theorem dX9_allSigns_5 : decode cX9_allSigns 5 = .ok (.iconst 5, 1) := by decide +kernel
theorem dX9_allSigns_6 : decode cX9_allSigns 6 = .ok (.if_icmp .ge 17, 3) := by decide +kernel
theorem dX9_allSigns_9 : decode cX9_allSigns 9 = .ok (.iload_n 1, 1) := by decide +kernel
theorem dX9_allSigns_10 : decode cX9_allSigns 10 = .ok (.aload_n 0, 1) := by decide +kernel
theorem dX9_allSigns_11 : decode cX9_allSigns 11 = .ok (.iload_n 2, 1) := by decide +kernel
theorem dX9_allSigns_12 : decode cX9_allSigns 12 = .ok (.invokevirtual 37, 3) := by decide +kernel
theorem dX9_allSigns_15 : decode cX9_allSigns 15 = .ok (.iadd, 1) := by decide +kernel
theorem dX9_allSigns_16 : decode cX9_allSigns 16 = .ok (.istore_n 1, 1) := by decide +kernel
theorem dX9_allSigns_17 : decode cX9_allSigns 17 = .ok (.iinc 2 1, 3) := by decide +kernel
theorem dX9_allSigns_20 : decode cX9_allSigns 20 = .ok (.goto (-16), 3) := by decide +kernel
theorem dX9_allSigns_23 : decode cX9_allSigns 23 = .ok (.iload_n 1, 1) := by decide +kernel
theorem dX9_allSigns_24 : decode cX9_allSigns 24 = .ok (.ireturn, 1) := by decide +kernel
theorem dX9_save_0 : decode cX9_save 0 = .ok (.aload_n 0, 1) := by decide +kernel
theorem dX9_save_1 : decode cX9_save 1 = .ok (.iconst 1, 1) := by decide +kernel
theorem dX9_save_2 : decode cX9_save 2 = .ok (.putfield 41, 3) := by decide +kernel
theorem dX9_save_5 : decode cX9_save 5 = .ok (.iconst 0, 1) := by decide +kernel
theorem dX9_save_6 : decode cX9_save 6 = .ok (.istore_n 1, 1) := by decide +kernel
theorem dX9_save_7 : decode cX9_save 7 = .ok (.iload_n 1, 1) := by decide +kernel
theorem dX9_save_8 : decode cX9_save 8 = .ok (.sipush 136, 3) := by decide +kernel
theorem dX9_save_11 : decode cX9_save 11 = .ok (.if_icmp .ge 21, 3) := by decide +kernel
theorem dX9_save_14 : decode cX9_save 14 = .ok (.aload_n 0, 1) := by decide +kernel
theorem dX9_save_15 : decode cX9_save 15 = .ok (.getfield 16, 3) := by decide +kernel
theorem dX9_save_18 : decode cX9_save 18 = .ok (.iload_n 1, 1) := by decide +kernel
theorem dX9_save_19 : decode cX9_save 19 = .ok (.aload_n 0, 1) := by decide +kernel
theorem dX9_save_20 : decode cX9_save 20 = .ok (.getfield 7, 3) := by decide +kernel
theorem dX9_save_23 : decode cX9_save 23 = .ok (.iload_n 1, 1) := by decide +kernel
theorem dX9_save_24 : decode cX9_save 24 = .ok (.iaload, 1) := by decide +kernel
theorem dX9_save_25 : decode cX9_save 25 = .ok (.iastore, 1) := by decide +kernel
theorem dX9_save_26 : decode cX9_save 26 = .ok (.iinc 1 1, 3) := by decide +kernel
theorem dX9_save_29 : decode cX9_save 29 = .ok (.goto (-22), 3) := by decide +kernel
theorem dX9_save_32 : decode cX9_save 32 = .ok (.aload_n 0, 1) := by decide +kernel
theorem dX9_save_33 : decode cX9_save 33 = .ok (.invokevirtual 45, 3) := by decide +kernel
theorem dX9_save_36 : decode cX9_save 36 = .ok (.ireturn, 1) := by decide +kernel
theorem dX9_restore_0 : decode cX9_restore 0 = .ok (.aload_n 0, 1) := by decide +kernel
theorem dX9_restore_1 : decode cX9_restore 1 = .ok (.getfield 41, 3) := by decide +kernel
theorem dX9_restore_4 : decode cX9_restore 4 = .ok (.ifCond .ne 6, 3) := by decide +kernel
theorem dX9_restore_7 : decode cX9_restore 7 = .ok (.bipush (-3), 2) := by decide +kernel
theorem dX9_restore_9 : decode cX9_restore 9 = .ok (.ireturn, 1) := by decide +kernel
theorem dX9_restore_10 : decode cX9_restore 10 = .ok (.aload_n 0, 1) := by decide +kernel
theorem dX9_restore_11 : decode cX9_restore 11 = .ok (.invokevirtual 34, 3) := by decide +kernel
theorem dX9_restore_14 : decode cX9_restore 14 = .ok (.iconst 0, 1) := by decide +kernel
theorem dX9_restore_15 : decode cX9_restore 15 = .ok (.istore_n 1, 1) := by decide +kernel
theorem dX9_restore_16 : decode cX9_restore 16 = .ok (.iload_n 1, 1) := by decide +kernel
theorem dX9_restore_17 : decode cX9_restore 17 = .ok (.sipush 136, 3) := by decide +kernel
theorem dX9_restore_20 : decode cX9_restore 20 = .ok (.if_icmp .ge 21, 3) := by decide +kernel
theorem dX9_restore_23 : decode cX9_restore 23 = .ok (.aload_n 0, 1) := by decide +kernel
theorem dX9_restore_24 : decode cX9_restore 24 = .ok (.getfield 7, 3) := by decide +kernel
theorem dX9_restore_27 : decode cX9_restore 27 = .ok (.iload_n 1, 1) := by decide +kernel
theorem dX9_restore_28 : decode cX9_restore 28 = .ok (.aload_n 0, 1) := by decide +kernel
theorem dX9_restore_29 : decode cX9_restore 29 = .ok (.getfield 16, 3) := by decide +kernel
theorem dX9_restore_32 : decode cX9_restore 32 = .ok (.iload_n 1, 1) := by decide +kernel
theorem dX9_restore_33 : decode cX9_restore 33 = .ok (.iaload, 1) := by decide +kernel
theorem dX9_restore_34 : decode cX9_restore 34 = .ok (.iastore, 1) := by decide +kernel
theorem dX9_restore_35 : decode cX9_restore 35 = .ok (.iinc 1 1, 3) := by decide +kernel
theorem dX9_restore_38 : decode cX9_restore 38 = .ok (.goto (-22), 3) := by decide +kernel
theorem dX9_restore_41 : decode cX9_restore 41 = .ok (.aload_n 0, 1) := by decide +kernel
theorem dX9_restore_42 : decode cX9_restore 42 = .ok (.invokevirtual 45, 3) := by decide +kernel
theorem dX9_restore_45 : decode cX9_restore 45 = .ok (.ireturn, 1) := by decide +kernel
theorem dX9_flagWith_0 : decode cX9_flagWith 0 = .ok (.bipush (-6), 2) := by decide +kernel
theorem dX9_flagWith_2 : decode cX9_flagWith 2 = .ok (.istore_n 3, 1) := by decide +kernel
theorem dX9_flagWith_3 : decode cX9_flagWith 3 = .ok (.bipush 9, 2) := by decide +kernel
theorem dX9_flagWith_5 : decode cX9_flagWith 5 = .ok (.istore 4, 2) := by decide +kernel
theorem dX9_flagWith_7 : decode cX9_flagWith 7 = .ok (.iload 4, 2) := by decide +kernel
theorem dX9_flagWith_9 : decode cX9_flagWith 9 = .ok (.ifCond .lt 38, 3) := by decide +kernel
theorem dX9_flagWith_12 : decode cX9_flagWith 12 = .ok (.aload_n 0, 1) := by decide +kernel
theorem dX9_flagWith_13 : decode cX9_flagWith 13 = .ok (.iload 4, 2) := by decide +kernel
theorem dX9_flagWith_15 : decode cX9_flagWith 15 = .ok (.iconst 0, 1) := by decide +kernel
theorem dX9_flagWith_16 : decode cX9_flagWith 16 = .ok (.invokevirtual 49, 3) := by decide +kernel
theorem dX9_flagWith_19 : decode cX9_flagWith 19 = .ok (.iload_n 1, 1) := by decide +kernel
theorem dX9_flagWith_20 : decode cX9_flagWith 20 = .ok (.if_icmp .ne 19, 3) := by decide +kernel
theorem dX9_flagWith_23 : decode cX9_flagWith 23 = .ok (.aload_n 0, 1) := by decide +kernel
theorem dX9_flagWith_24 : decode cX9_flagWith 24 = .ok (.iload 4, 2) := by decide +kernel
theorem dX9_flagWith_26 : decode cX9_flagWith 26 = .ok (.iconst 1, 1) := by decide +kernel
theorem dX9_flagWith_27 : decode cX9_flagWith 27 = .ok (.invokevirtual 49, 3) := by decide +kernel
theorem dX9_flagWith_30 : decode cX9_flagWith 30 = .ok (.iload_n 2, 1) := by decide +kernel
theorem dX9_flagWith_31 : decode cX9_flagWith 31 = .ok (.if_icmp .ne 8, 3) := by decide +kernel
theorem dX9_flagWith_34 : decode cX9_flagWith 34 = .ok (.iload 4, 2) := by decide +kernel
theorem dX9_flagWith_36 : decode cX9_flagWith 36 = .ok (.goto 4, 3) := by decide +kernel
theorem dX9_flagWith_39 : decode cX9_flagWith 39 = .ok (.iload_n 3, 1) := by decide +kernel
theorem dX9_flagWith_40 : decode cX9_flagWith 40 = .ok (.istore_n 3, 1) := by decide +kernel
theorem dX9_flagWith_41 : decode cX9_flagWith 41 = .ok (.iinc 4 (-1), 3) := by decide +kernel
theorem dX9_flagWith_44 : decode cX9_flagWith 44 = .ok (.goto (-37), 3) := by decide +kernel
theorem dX9_flagWith_47 : decode cX9_flagWith 47 = .ok (.iload_n 3, 1) := by decide +kernel
theorem dX9_flagWith_48 : decode cX9_flagWith 48 = .ok (.ireturn, 1) := by decide +kernel
theorem dX9_paint_0 : decode cX9_paint 0 = .ok (.iload_n 1, 1) := by decide +kernel
theorem dX9_paint_1 : decode cX9_paint 1 = .ok (.invokestatic 53, 3) := by decide +kernel
theorem dX9_paint_4 : decode cX9_paint 4 = .ok (.ifCond .ne 5, 3) := by decide +kernel
theorem dX9_paint_7 : decode cX9_paint 7 = .ok (.iconst (-1), 1) := by decide +kernel
theorem dX9_paint_8 : decode cX9_paint 8 = .ok (.ireturn, 1) := by decide +kernel
theorem dX9_paint_9 : decode cX9_paint 9 = .ok (.iload_n 2, 1) := by decide +kernel
theorem dX9_paint_10 : decode cX9_paint 10 = .ok (.iconst 0, 1) := by decide +kernel
theorem dX9_paint_11 : decode cX9_paint 11 = .ok (.bipush 7, 2) := by decide +kernel
theorem dX9_paint_13 : decode cX9_paint 13 = .ok (.invokestatic 26, 3) := by decide +kernel
theorem dX9_paint_16 : decode cX9_paint 16 = .ok (.ifCond .eq 24, 3) := by decide +kernel
theorem dX9_paint_19 : decode cX9_paint 19 = .ok (.iload_n 3, 1) := by decide +kernel
theorem dX9_paint_20 : decode cX9_paint 20 = .ok (.iconst 0, 1) := by decide +kernel
theorem dX9_paint_21 : decode cX9_paint 21 = .ok (.bipush 7, 2) := by decide +kernel
theorem dX9_paint_23 : decode cX9_paint 23 = .ok (.invokestatic 26, 3) := by decide +kernel
theorem dX9_paint_26 : decode cX9_paint 26 = .ok (.ifCond .eq 14, 3) := by decide +kernel
theorem dX9_paint_29 : decode cX9_paint 29 = .ok (.iload 4, 2) := by decide +kernel
theorem dX9_paint_31 : decode cX9_paint 31 = .ok (.iconst 0, 1) := by decide +kernel
theorem dX9_paint_32 : decode cX9_paint 32 = .ok (.bipush 9, 2) := by decide +kernel
theorem dX9_paint_34 : decode cX9_paint 34 = .ok (.invokestatic 26, 3) := by decide +kernel
theorem dX9_paint_37 : decode cX9_paint 37 = .ok (.ifCond .ne 6, 3) := by decide +kernel
theorem dX9_paint_40 : decode cX9_paint 40 = .ok (.bipush (-2), 2) := by decide +kernel
theorem dX9_paint_42 : decode cX9_paint 42 = .ok (.ireturn, 1) := by decide +kernel
theorem dX9_paint_43 : decode cX9_paint 43 = .ok (.aload_n 0, 1) := by decide +kernel
theorem dX9_paint_44 : decode cX9_paint 44 = .ok (.invokevirtual 57, 3) := by decide +kernel
theorem dX9_paint_47 : decode cX9_paint 47 = .ok (.aload_n 0, 1) := by decide +kernel
theorem dX9_paint_48 : decode cX9_paint 48 = .ok (.getfield 7, 3) := by decide +kernel
theorem dX9_paint_51 : decode cX9_paint 51 = .ok (.bipush 8, 2) := by decide +kernel
theorem dX9_paint_53 : decode cX9_paint 53 = .ok (.iconst 3, 1) := by decide +kernel
theorem dX9_paint_54 : decode cX9_paint 54 = .ok (.iload_n 1, 1) := by decide +kernel
theorem dX9_paint_55 : decode cX9_paint 55 = .ok (.imul, 1) := by decide +kernel
theorem dX9_paint_56 : decode cX9_paint 56 = .ok (.iadd, 1) := by decide +kernel
theorem dX9_paint_57 : decode cX9_paint 57 = .ok (.iload_n 2, 1) := by decide +kernel
theorem dX9_paint_58 : decode cX9_paint 58 = .ok (.iastore, 1) := by decide +kernel
theorem dX9_paint_59 : decode cX9_paint 59 = .ok (.aload_n 0, 1) := by decide +kernel
theorem dX9_paint_60 : decode cX9_paint 60 = .ok (.getfield 7, 3) := by decide +kernel
theorem dX9_paint_63 : decode cX9_paint 63 = .ok (.bipush 8, 2) := by decide +kernel
theorem dX9_paint_65 : decode cX9_paint 65 = .ok (.iconst 3, 1) := by decide +kernel
theorem dX9_paint_66 : decode cX9_paint 66 = .ok (.iload_n 1, 1) := by decide +kernel
theorem dX9_paint_67 : decode cX9_paint 67 = .ok (.imul, 1) := by decide +kernel
theorem dX9_paint_68 : decode cX9_paint 68 = .ok (.iadd, 1) := by decide +kernel
theorem dX9_paint_69 : decode cX9_paint 69 = .ok (.iconst 1, 1) := by decide +kernel
theorem dX9_paint_70 : decode cX9_paint 70 = .ok (.iadd, 1) := by decide +kernel
theorem dX9_paint_71 : decode cX9_paint 71 = .ok (.iload_n 3, 1) := by decide +kernel
theorem dX9_paint_72 : decode cX9_paint 72 = .ok (.iastore, 1) := by decide +kernel
theorem dX9_paint_73 : decode cX9_paint 73 = .ok (.aload_n 0, 1) := by decide +kernel
theorem dX9_paint_74 : decode cX9_paint 74 = .ok (.getfield 7, 3) := by decide +kernel
theorem dX9_paint_77 : decode cX9_paint 77 = .ok (.bipush 8, 2) := by decide +kernel
theorem dX9_paint_79 : decode cX9_paint 79 = .ok (.iconst 3, 1) := by decide +kernel
theorem dX9_paint_80 : decode cX9_paint 80 = .ok (.iload_n 1, 1) := by decide +kernel
theorem dX9_paint_81 : decode cX9_paint 81 = .ok (.imul, 1) := by decide +kernel
theorem dX9_paint_82 : decode cX9_paint 82 = .ok (.iadd, 1) := by decide +kernel
theorem dX9_paint_83 : decode cX9_paint 83 = .ok (.iconst 2, 1) := by decide +kernel
theorem dX9_paint_84 : decode cX9_paint 84 = .ok (.iadd, 1) := by decide +kernel
theorem dX9_paint_85 : decode cX9_paint 85 = .ok (.iload 4, 2) := by decide +kernel
theorem dX9_paint_87 : decode cX9_paint 87 = .ok (.iastore, 1) := by decide +kernel
theorem dX9_paint_88 : decode cX9_paint 88 = .ok (.iconst 0, 1) := by decide +kernel
theorem dX9_paint_89 : decode cX9_paint 89 = .ok (.istore 5, 2) := by decide +kernel
theorem dX9_paint_91 : decode cX9_paint 91 = .ok (.iconst 0, 1) := by decide +kernel
theorem dX9_paint_92 : decode cX9_paint 92 = .ok (.istore 6, 2) := by decide +kernel
theorem dX9_paint_94 : decode cX9_paint 94 = .ok (.iload 6, 2) := by decide +kernel
theorem dX9_paint_96 : decode cX9_paint 96 = .ok (.bipush 10, 2) := by decide +kernel
theorem dX9_paint_98 : decode cX9_paint 98 = .ok (.if_icmp .ge 41, 3) := by decide +kernel
theorem dX9_paint_101 : decode cX9_paint 101 = .ok (.iload 5, 2) := by decide +kernel
theorem dX9_paint_103 : decode cX9_paint 103 = .ok (.aload_n 0, 1) := by decide +kernel
theorem dX9_paint_104 : decode cX9_paint 104 = .ok (.iload 6, 2) := by decide +kernel
theorem dX9_paint_106 : decode cX9_paint 106 = .ok (.iconst 0, 1) := by decide +kernel
theorem dX9_paint_107 : decode cX9_paint 107 = .ok (.invokevirtual 49, 3) := by decide +kernel
theorem dX9_paint_110 : decode cX9_paint 110 = .ok (.iload_n 2, 1) := by decide +kernel
theorem dX9_paint_111 : decode cX9_paint 111 = .ok (.if_icmp .ne 18, 3) := by decide +kernel
theorem dX9_paint_114 : decode cX9_paint 114 = .ok (.aload_n 0, 1) := by decide +kernel
theorem dX9_paint_115 : decode cX9_paint 115 = .ok (.iload 6, 2) := by decide +kernel
theorem dX9_paint_117 : decode cX9_paint 117 = .ok (.iconst 1, 1) := by decide +kernel
theorem dX9_paint_118 : decode cX9_paint 118 = .ok (.invokevirtual 49, 3) := by decide +kernel
theorem dX9_paint_121 : decode cX9_paint 121 = .ok (.iload_n 3, 1) := by decide +kernel
theorem dX9_paint_122 : decode cX9_paint 122 = .ok (.if_icmp .ne 7, 3) := by decide +kernel
theorem dX9_paint_125 : decode cX9_paint 125 = .ok (.iconst 1, 1) := by decide +kernel
theorem dX9_paint_126 : decode cX9_paint 126 = .ok (.goto 4, 3) := by decide +kernel
theorem dX9_paint_129 : decode cX9_paint 129 = .ok (.iconst 0, 1) := by decide +kernel
theorem dX9_paint_130 : decode cX9_paint 130 = .ok (.iadd, 1) := by decide +kernel
theorem dX9_paint_131 : decode cX9_paint 131 = .ok (.istore 5, 2) := by decide +kernel
theorem dX9_paint_133 : decode cX9_paint 133 = .ok (.iinc 6 1, 3) := by decide +kernel
theorem dX9_paint_136 : decode cX9_paint 136 = .ok (.goto (-42), 3) := by decide +kernel
theorem dX9_paint_139 : decode cX9_paint 139 = .ok (.iload 5, 2) := by decide +kernel
theorem dX9_paint_141 : decode cX9_paint 141 = .ok (.ireturn, 1) := by decide +kernel
theorem dX9_used_0 : decode cX9_used 0 = .ok (.iconst 0, 1) := by decide +kernel
theorem dX9_used_1 : decode cX9_used 1 = .ok (.istore_n 2, 1) := by decide +kernel
theorem dX9_used_2 : decode cX9_used 2 = .ok (.iconst 0, 1) := by decide +kernel
theorem dX9_used_3 : decode cX9_used 3 = .ok (.istore_n 3, 1) := by decide +kernel
theorem dX9_used_4 : decode cX9_used 4 = .ok (.iload_n 3, 1) := by decide +kernel
theorem dX9_used_5 : decode cX9_used 5 = .ok (.iconst 5, 1) := by decide +kernel
theorem dX9_used_6 : decode cX9_used 6 = .ok (.if_icmp .ge 47, 3) := by decide +kernel
theorem dX9_used_9 : decode cX9_used 9 = .ok (.iconst 1, 1) := by decide +kernel
theorem dX9_used_10 : decode cX9_used 10 = .ok (.istore 4, 2) := by decide +kernel
theorem dX9_used_12 : decode cX9_used 12 = .ok (.iload 4, 2) := by decide +kernel
theorem dX9_used_14 : decode cX9_used 14 = .ok (.aload_n 0, 1) := by decide +kernel
theorem dX9_used_15 : decode cX9_used 15 = .ok (.iload_n 3, 1) := by decide +kernel
theorem dX9_used_16 : decode cX9_used 16 = .ok (.invokevirtual 37, 3) := by decide +kernel
theorem dX9_used_19 : decode cX9_used 19 = .ok (.if_icmp .gt 28, 3) := by decide +kernel
theorem dX9_used_22 : decode cX9_used 22 = .ok (.iload_n 2, 1) := by decide +kernel
theorem dX9_used_23 : decode cX9_used 23 = .ok (.aload_n 0, 1) := by decide +kernel
theorem dX9_used_24 : decode cX9_used 24 = .ok (.iload_n 3, 1) := by decide +kernel
theorem dX9_used_25 : decode cX9_used 25 = .ok (.iload 4, 2) := by decide +kernel
theorem dX9_used_27 : decode cX9_used 27 = .ok (.invokevirtual 60, 3) := by decide +kernel
theorem dX9_used_30 : decode cX9_used 30 = .ok (.iload_n 1, 1) := by decide +kernel
theorem dX9_used_31 : decode cX9_used 31 = .ok (.if_icmp .ne 7, 3) := by decide +kernel
theorem dX9_used_34 : decode cX9_used 34 = .ok (.iconst 1, 1) := by decide +kernel
theorem dX9_used_35 : decode cX9_used 35 = .ok (.goto 4, 3) := by decide +kernel
theorem dX9_used_38 : decode cX9_used 38 = .ok (.iconst 0, 1) := by decide +kernel
theorem dX9_used_39 : decode cX9_used 39 = .ok (.iadd, 1) := by decide +kernel
theorem dX9_used_40 : decode cX9_used 40 = .ok (.istore_n 2, 1) := by decide +kernel
theorem dX9_used_41 : decode cX9_used 41 = .ok (.iinc 4 1, 3) := by decide +kernel
theorem dX9_used_44 : decode cX9_used 44 = .ok (.goto (-32), 3) := by decide +kernel
theorem dX9_used_47 : decode cX9_used 47 = .ok (.iinc 3 1, 3) := by decide +kernel
theorem dX9_used_50 : decode cX9_used 50 = .ok (.goto (-46), 3) := by decide +kernel
theorem dX9_used_53 : decode cX9_used 53 = .ok (.iload_n 2, 1) := by decide +kernel
theorem dX9_used_54 : decode cX9_used 54 = .ok (.ireturn, 1) := by decide +kernel
theorem dX9_mostUsed_0 : decode cX9_mostUsed 0 = .ok (.iconst 0, 1) := by decide +kernel
theorem dX9_mostUsed_1 : decode cX9_mostUsed 1 = .ok (.istore_n 1, 1) := by decide +kernel
theorem dX9_mostUsed_2 : decode cX9_mostUsed 2 = .ok (.iconst 0, 1) := by decide +kernel
theorem dX9_mostUsed_3 : decode cX9_mostUsed 3 = .ok (.istore_n 2, 1) := by decide +kernel
theorem dX9_mostUsed_4 : decode cX9_mostUsed 4 = .ok (.iload_n 2, 1) := by decide +kernel
theorem dX9_mostUsed_5 : decode cX9_mostUsed 5 = .ok (.bipush 13, 2) := by decide +kernel
theorem dX9_mostUsed_7 : decode cX9_mostUsed 7 = .ok (.if_icmp .gt 28, 3) := by decide +kernel
theorem dX9_mostUsed_10 : decode cX9_mostUsed 10 = .ok (.aload_n 0, 1) := by decide +kernel
theorem dX9_mostUsed_11 : decode cX9_mostUsed 11 = .ok (.iload_n 2, 1) := by decide +kernel
theorem dX9_mostUsed_12 : decode cX9_mostUsed 12 = .ok (.invokevirtual 63, 3) := by decide +kernel
theorem dX9_mostUsed_15 : decode cX9_mostUsed 15 = .ok (.iload_n 1, 1) := by decide +kernel
theorem dX9_mostUsed_16 : decode cX9_mostUsed 16 = .ok (.if_icmp .le 11, 3) := by decide +kernel
theorem dX9_mostUsed_19 : decode cX9_mostUsed 19 = .ok (.aload_n 0, 1) := by decide +kernel
theorem dX9_mostUsed_20 : decode cX9_mostUsed 20 = .ok (.iload_n 2, 1) := by decide +kernel
theorem dX9_mostUsed_21 : decode cX9_mostUsed 21 = .ok (.invokevirtual 63, 3) := by decide +kernel
theorem dX9_mostUsed_24 : decode cX9_mostUsed 24 = .ok (.goto 4, 3) := by decide +kernel
theorem dX9_mostUsed_27 : decode cX9_mostUsed 27 = .ok (.iload_n 1, 1) := by decide +kernel
theorem dX9_mostUsed_28 : decode cX9_mostUsed 28 = .ok (.istore_n 1, 1) := by decide +kernel
theorem dX9_mostUsed_29 : decode cX9_mostUsed 29 = .ok (.iinc 2 1, 3) := by decide +kernel
theorem dX9_mostUsed_32 : decode cX9_mostUsed 32 = .ok (.goto (-28), 3) := by decide +kernel
theorem dX9_mostUsed_35 : decode cX9_mostUsed 35 = .ok (.iload_n 1, 1) := by decide +kernel
theorem dX9_mostUsed_36 : decode cX9_mostUsed 36 = .ok (.ireturn, 1) := by decide +kernel
theorem dX9_setStock_0 : decode cX9_setStock 0 = .ok (.iload_n 1, 1) := by decide +kernel
theorem dX9_setStock_1 : decode cX9_setStock 1 = .ok (.iconst 1, 1) := by decide +kernel
theorem dX9_setStock_2 : decode cX9_setStock 2 = .ok (.iconst 3, 1) := by decide +kernel
theorem dX9_setStock_3 : decode cX9_setStock 3 = .ok (.invokestatic 26, 3) := by decide +kernel
theorem dX9_setStock_6 : decode cX9_setStock 6 = .ok (.ifCond .ne 6, 3) := by decide +kernel
theorem dX9_setStock_9 : decode cX9_setStock 9 = .ok (.bipush (-2), 2) := by decide +kernel
theorem dX9_setStock_11 : decode cX9_setStock 11 = .ok (.ireturn, 1) := by decide +kernel
theorem dX9_setStock_12 : decode cX9_setStock 12 = .ok (.aload_n 0, 1) := by decide +kernel
theorem dX9_setStock_13 : decode cX9_setStock 13 = .ok (.invokevirtual 66, 3) := by decide +kernel
theorem dX9_setStock_16 : decode cX9_setStock 16 = .ok (.iload_n 1, 1) := by decide +kernel
theorem dX9_setStock_17 : decode cX9_setStock 17 = .ok (.if_icmp .le 6, 3) := by decide +kernel
theorem dX9_setStock_20 : decode cX9_setStock 20 = .ok (.bipush (-3), 2) := by decide +kernel
theorem dX9_setStock_22 : decode cX9_setStock 22 = .ok (.ireturn, 1) := by decide +kernel
theorem dX9_setStock_23 : decode cX9_setStock 23 = .ok (.aload_n 0, 1) := by decide +kernel
theorem dX9_setStock_24 : decode cX9_setStock 24 = .ok (.invokevirtual 34, 3) := by decide +kernel
theorem dX9_setStock_27 : decode cX9_setStock 27 = .ok (.aload_n 0, 1) := by decide +kernel
theorem dX9_setStock_28 : decode cX9_setStock 28 = .ok (.getfield 7, 3) := by decide +kernel
theorem dX9_setStock_31 : decode cX9_setStock 31 = .ok (.iconst 0, 1) := by decide +kernel
theorem dX9_setStock_32 : decode cX9_setStock 32 = .ok (.iaload, 1) := by decide +kernel
theorem dX9_setStock_33 : decode cX9_setStock 33 = .ok (.istore_n 2, 1) := by decide +kernel
theorem dX9_setStock_34 : decode cX9_setStock 34 = .ok (.aload_n 0, 1) := by decide +kernel
theorem dX9_setStock_35 : decode cX9_setStock 35 = .ok (.getfield 7, 3) := by decide +kernel
theorem dX9_setStock_38 : decode cX9_setStock 38 = .ok (.iconst 0, 1) := by decide +kernel
theorem dX9_setStock_39 : decode cX9_setStock 39 = .ok (.iload_n 1, 1) := by decide +kernel
theorem dX9_setStock_40 : decode cX9_setStock 40 = .ok (.iastore, 1) := by decide +kernel
theorem dX9_setStock_41 : decode cX9_setStock 41 = .ok (.iload_n 2, 1) := by decide +kernel
theorem dX9_setStock_42 : decode cX9_setStock 42 = .ok (.ireturn, 1) := by decide +kernel
theorem dX9_setWind_0 : decode cX9_setWind 0 = .ok (.iload_n 1, 1) := by decide +kernel
theorem dX9_setWind_1 : decode cX9_setWind 1 = .ok (.iconst 0, 1) := by decide +kernel
theorem dX9_setWind_2 : decode cX9_setWind 2 = .ok (.bipush 9, 2) := by decide +kernel
theorem dX9_setWind_4 : decode cX9_setWind 4 = .ok (.invokestatic 26, 3) := by decide +kernel
theorem dX9_setWind_7 : decode cX9_setWind 7 = .ok (.ifCond .eq 10, 3) := by decide +kernel
theorem dX9_setWind_10 : decode cX9_setWind 10 = .ok (.iload_n 2, 1) := by decide +kernel
theorem dX9_setWind_11 : decode cX9_setWind 11 = .ok (.invokestatic 69, 3) := by decide +kernel
theorem dX9_setWind_14 : decode cX9_setWind 14 = .ok (.ifCond .ne 6, 3) := by decide +kernel
theorem dX9_setWind_17 : decode cX9_setWind 17 = .ok (.bipush (-2), 2) := by decide +kernel
theorem dX9_setWind_19 : decode cX9_setWind 19 = .ok (.ireturn, 1) := by decide +kernel
theorem dX9_setWind_20 : decode cX9_setWind 20 = .ok (.aload_n 0, 1) := by decide +kernel
theorem dX9_setWind_21 : decode cX9_setWind 21 = .ok (.invokevirtual 57, 3) := by decide +kernel
theorem dX9_setWind_24 : decode cX9_setWind 24 = .ok (.aload_n 0, 1) := by decide +kernel
theorem dX9_setWind_25 : decode cX9_setWind 25 = .ok (.getfield 7, 3) := by decide +kernel
theorem dX9_setWind_28 : decode cX9_setWind 28 = .ok (.iconst 1, 1) := by decide +kernel
theorem dX9_setWind_29 : decode cX9_setWind 29 = .ok (.iaload, 1) := by decide +kernel
theorem dX9_setWind_30 : decode cX9_setWind 30 = .ok (.istore_n 3, 1) := by decide +kernel
theorem dX9_setWind_31 : decode cX9_setWind 31 = .ok (.aload_n 0, 1) := by decide +kernel
theorem dX9_setWind_32 : decode cX9_setWind 32 = .ok (.getfield 7, 3) := by decide +kernel
theorem dX9_setWind_35 : decode cX9_setWind 35 = .ok (.iconst 1, 1) := by decide +kernel
theorem dX9_setWind_36 : decode cX9_setWind 36 = .ok (.iload_n 1, 1) := by decide +kernel
theorem dX9_setWind_37 : decode cX9_setWind 37 = .ok (.iastore, 1) := by decide +kernel
theorem dX9_setWind_38 : decode cX9_setWind 38 = .ok (.aload_n 0, 1) := by decide +kernel
theorem dX9_setWind_39 : decode cX9_setWind 39 = .ok (.getfield 7, 3) := by decide +kernel
theorem dX9_setWind_42 : decode cX9_setWind 42 = .ok (.iconst 2, 1) := by decide +kernel
theorem dX9_setWind_43 : decode cX9_setWind 43 = .ok (.iload_n 2, 1) := by decide +kernel
theorem dX9_setWind_44 : decode cX9_setWind 44 = .ok (.iastore, 1) := by decide +kernel
theorem dX9_setWind_45 : decode cX9_setWind 45 = .ok (.iload_n 3, 1) := by decide +kernel
theorem dX9_setWind_46 : decode cX9_setWind 46 = .ok (.ireturn, 1) := by decide +kernel
theorem dX9_flag_0 : decode cX9_flag 0 = .ok (.iload_n 1, 1) := by decide +kernel
theorem dX9_flag_1 : decode cX9_flag 1 = .ok (.invokestatic 53, 3) := by decide +kernel
theorem dX9_flag_4 : decode cX9_flag 4 = .ok (.ifCond .ne 5, 3) := by decide +kernel
theorem dX9_flag_7 : decode cX9_flag 7 = .ok (.iconst (-1), 1) := by decide +kernel
theorem dX9_flag_8 : decode cX9_flag 8 = .ok (.ireturn, 1) := by decide +kernel
theorem dX9_flag_9 : decode cX9_flag 9 = .ok (.iload_n 2, 1) := by decide +kernel
theorem dX9_flag_10 : decode cX9_flag 10 = .ok (.tableswitch 71 0 4 #[34, 34, 34, 41, 54], 34) := by decide +kernel
theorem dX9_flag_44 : decode cX9_flag 44 = .ok (.aload_n 0, 1) := by decide +kernel
theorem dX9_flag_45 : decode cX9_flag 45 = .ok (.iload_n 1, 1) := by decide +kernel
theorem dX9_flag_46 : decode cX9_flag 46 = .ok (.iload_n 2, 1) := by decide +kernel
theorem dX9_flag_47 : decode cX9_flag 47 = .ok (.invokevirtual 49, 3) := by decide +kernel
theorem dX9_flag_50 : decode cX9_flag 50 = .ok (.ireturn, 1) := by decide +kernel
theorem dX9_flag_51 : decode cX9_flag 51 = .ok (.aload_n 0, 1) := by decide +kernel
theorem dX9_flag_52 : decode cX9_flag 52 = .ok (.getfield 7, 3) := by decide +kernel
theorem dX9_flag_55 : decode cX9_flag 55 = .ok (.iconst 0, 1) := by decide +kernel
theorem dX9_flag_56 : decode cX9_flag 56 = .ok (.iaload, 1) := by decide +kernel
theorem dX9_flag_57 : decode cX9_flag 57 = .ok (.aload_n 0, 1) := by decide +kernel
theorem dX9_flag_58 : decode cX9_flag 58 = .ok (.iload_n 1, 1) := by decide +kernel
theorem dX9_flag_59 : decode cX9_flag 59 = .ok (.invokevirtual 63, 3) := by decide +kernel
theorem dX9_flag_62 : decode cX9_flag 62 = .ok (.isub, 1) := by decide +kernel
theorem dX9_flag_63 : decode cX9_flag 63 = .ok (.ireturn, 1) := by decide +kernel
theorem dX9_flag_64 : decode cX9_flag 64 = .ok (.aload_n 0, 1) := by decide +kernel
theorem dX9_flag_65 : decode cX9_flag 65 = .ok (.aload_n 0, 1) := by decide +kernel
theorem dX9_flag_66 : decode cX9_flag 66 = .ok (.iload_n 1, 1) := by decide +kernel
theorem dX9_flag_67 : decode cX9_flag 67 = .ok (.iconst 1, 1) := by decide +kernel
theorem dX9_flag_68 : decode cX9_flag 68 = .ok (.invokevirtual 49, 3) := by decide +kernel
theorem dX9_flag_71 : decode cX9_flag 71 = .ok (.aload_n 0, 1) := by decide +kernel
theorem dX9_flag_72 : decode cX9_flag 72 = .ok (.iload_n 1, 1) := by decide +kernel
theorem dX9_flag_73 : decode cX9_flag 73 = .ok (.iconst 0, 1) := by decide +kernel
theorem dX9_flag_74 : decode cX9_flag 74 = .ok (.invokevirtual 49, 3) := by decide +kernel
theorem dX9_flag_77 : decode cX9_flag 77 = .ok (.invokevirtual 72, 3) := by decide +kernel
theorem dX9_flag_80 : decode cX9_flag 80 = .ok (.ireturn, 1) := by decide +kernel
theorem dX9_flag_81 : decode cX9_flag 81 = .ok (.bipush (-2), 2) := by decide +kernel
theorem dX9_flag_83 : decode cX9_flag 83 = .ok (.ireturn, 1) := by decide +kernel
theorem dX9_isSign_0 : decode cX9_isSign 0 = .ok (.iload_n 0, 1) := by decide +kernel
theorem dX9_isSign_1 : decode cX9_isSign 1 = .ok (.invokestatic 53, 3) := by decide +kernel
theorem dX9_isSign_4 : decode cX9_isSign 4 = .ok (.ifCond .ne 14, 3) := by decide +kernel
theorem dX9_isSign_7 : decode cX9_isSign 7 = .ok (.iload_n 0, 1) := by decide +kernel
theorem dX9_isSign_8 : decode cX9_isSign 8 = .ok (.bipush 11, 2) := by decide +kernel
theorem dX9_isSign_10 : decode cX9_isSign 10 = .ok (.bipush 13, 2) := by decide +kernel
theorem dX9_isSign_12 : decode cX9_isSign 12 = .ok (.invokestatic 26, 3) := by decide +kernel
theorem dX9_isSign_15 : decode cX9_isSign 15 = .ok (.ifCond .eq 7, 3) := by decide +kernel
theorem dX9_isSign_18 : decode cX9_isSign 18 = .ok (.iconst 1, 1) := by decide +kernel
theorem dX9_isSign_19 : decode cX9_isSign 19 = .ok (.goto 4, 3) := by decide +kernel
theorem dX9_isSign_22 : decode cX9_isSign 22 = .ok (.iconst 0, 1) := by decide +kernel
theorem dX9_isSign_23 : decode cX9_isSign 23 = .ok (.ireturn, 1) := by decide +kernel
theorem dX9_putOn_0 : decode cX9_putOn 0 = .ok (.aload_n 0, 1) := by decide +kernel
theorem dX9_putOn_1 : decode cX9_putOn 1 = .ok (.getfield 7, 3) := by decide +kernel
theorem dX9_putOn_4 : decode cX9_putOn 4 = .ok (.bipush 38, 2) := by decide +kernel
theorem dX9_putOn_6 : decode cX9_putOn 6 = .ok (.iconst 5, 1) := by decide +kernel
theorem dX9_putOn_7 : decode cX9_putOn 7 = .ok (.iload_n 1, 1) := by decide +kernel
theorem dX9_putOn_8 : decode cX9_putOn 8 = .ok (.imul, 1) := by decide +kernel
theorem dX9_putOn_9 : decode cX9_putOn 9 = .ok (.iadd, 1) := by decide +kernel
theorem dX9_putOn_10 : decode cX9_putOn 10 = .ok (.dup2, 1) := by decide +kernel
theorem dX9_putOn_11 : decode cX9_putOn 11 = .ok (.iaload, 1) := by decide +kernel
theorem dX9_putOn_12 : decode cX9_putOn 12 = .ok (.iconst 1, 1) := by decide +kernel
theorem dX9_putOn_13 : decode cX9_putOn 13 = .ok (.iadd, 1) := by decide +kernel
theorem dX9_putOn_14 : decode cX9_putOn 14 = .ok (.iastore, 1) := by decide +kernel
theorem dX9_putOn_15 : decode cX9_putOn 15 = .ok (.aload_n 0, 1) := by decide +kernel
theorem dX9_putOn_16 : decode cX9_putOn 16 = .ok (.getfield 7, 3) := by decide +kernel
theorem dX9_putOn_19 : decode cX9_putOn 19 = .ok (.bipush 38, 2) := by decide +kernel
theorem dX9_putOn_21 : decode cX9_putOn 21 = .ok (.iconst 5, 1) := by decide +kernel
theorem dX9_putOn_22 : decode cX9_putOn 22 = .ok (.iload_n 1, 1) := by decide +kernel
theorem dX9_putOn_23 : decode cX9_putOn 23 = .ok (.imul, 1) := by decide +kernel
theorem dX9_putOn_24 : decode cX9_putOn 24 = .ok (.iadd, 1) := by decide +kernel
theorem dX9_putOn_25 : decode cX9_putOn 25 = .ok (.aload_n 0, 1) := by decide +kernel
theorem dX9_putOn_26 : decode cX9_putOn 26 = .ok (.iload_n 1, 1) := by decide +kernel
theorem dX9_putOn_27 : decode cX9_putOn 27 = .ok (.invokevirtual 37, 3) := by decide +kernel
theorem dX9_putOn_30 : decode cX9_putOn 30 = .ok (.iadd, 1) := by decide +kernel
theorem dX9_putOn_31 : decode cX9_putOn 31 = .ok (.iload_n 2, 1) := by decide +kernel
theorem dX9_putOn_32 : decode cX9_putOn 32 = .ok (.iastore, 1) := by decide +kernel
theorem dX9_putOn_33 : decode cX9_putOn 33 = .ok (.return_, 1) := by decide +kernel
theorem dX9_bend_0 : decode cX9_bend 0 = .ok (.iload_n 1, 1) := by decide +kernel
theorem dX9_bend_1 : decode cX9_bend 1 = .ok (.invokestatic 75, 3) := by decide +kernel
theorem dX9_bend_4 : decode cX9_bend 4 = .ok (.ifCond .eq 10, 3) := by decide +kernel
theorem dX9_bend_7 : decode cX9_bend 7 = .ok (.iload_n 2, 1) := by decide +kernel
theorem dX9_bend_8 : decode cX9_bend 8 = .ok (.invokestatic 78, 3) := by decide +kernel
theorem dX9_bend_11 : decode cX9_bend 11 = .ok (.ifCond .ne 5, 3) := by decide +kernel
theorem dX9_bend_14 : decode cX9_bend 14 = .ok (.iconst (-1), 1) := by decide +kernel
theorem dX9_bend_15 : decode cX9_bend 15 = .ok (.ireturn, 1) := by decide +kernel
theorem dX9_bend_16 : decode cX9_bend 16 = .ok (.iload_n 2, 1) := by decide +kernel
theorem dX9_bend_17 : decode cX9_bend 17 = .ok (.bipush 10, 2) := by decide +kernel
theorem dX9_bend_19 : decode cX9_bend 19 = .ok (.if_icmp .le 18, 3) := by decide +kernel
theorem dX9_bend_22 : decode cX9_bend 22 = .ok (.iload_n 2, 1) := by decide +kernel
theorem dX9_bend_23 : decode cX9_bend 23 = .ok (.bipush 10, 2) := by decide +kernel
theorem dX9_bend_25 : decode cX9_bend 25 = .ok (.isub, 1) := by decide +kernel
theorem dX9_bend_26 : decode cX9_bend 26 = .ok (.aload_n 0, 1) := by decide +kernel
theorem dX9_bend_27 : decode cX9_bend 27 = .ok (.iload_n 1, 1) := by decide +kernel
theorem dX9_bend_28 : decode cX9_bend 28 = .ok (.invokevirtual 37, 3) := by decide +kernel
theorem dX9_bend_31 : decode cX9_bend 31 = .ok (.if_icmp .le 6, 3) := by decide +kernel
theorem dX9_bend_34 : decode cX9_bend 34 = .ok (.bipush (-3), 2) := by decide +kernel
theorem dX9_bend_36 : decode cX9_bend 36 = .ok (.ireturn, 1) := by decide +kernel
theorem dX9_bend_37 : decode cX9_bend 37 = .ok (.aload_n 0, 1) := by decide +kernel
theorem dX9_bend_38 : decode cX9_bend 38 = .ok (.iload_n 1, 1) := by decide +kernel
theorem dX9_bend_39 : decode cX9_bend 39 = .ok (.invokevirtual 37, 3) := by decide +kernel
theorem dX9_bend_42 : decode cX9_bend 42 = .ok (.iconst 4, 1) := by decide +kernel
theorem dX9_bend_43 : decode cX9_bend 43 = .ok (.if_icmp .eq 17, 3) := by decide +kernel
theorem dX9_bend_46 : decode cX9_bend 46 = .ok (.aload_n 0, 1) := by decide +kernel
theorem dX9_bend_47 : decode cX9_bend 47 = .ok (.iload_n 2, 1) := by decide +kernel
theorem dX9_bend_48 : decode cX9_bend 48 = .ok (.invokevirtual 63, 3) := by decide +kernel
theorem dX9_bend_51 : decode cX9_bend 51 = .ok (.aload_n 0, 1) := by decide +kernel
theorem dX9_bend_52 : decode cX9_bend 52 = .ok (.getfield 7, 3) := by decide +kernel
theorem dX9_bend_55 : decode cX9_bend 55 = .ok (.iconst 0, 1) := by decide +kernel
theorem dX9_bend_56 : decode cX9_bend 56 = .ok (.iaload, 1) := by decide +kernel
theorem dX9_bend_57 : decode cX9_bend 57 = .ok (.if_icmp .ne 6, 3) := by decide +kernel
theorem dX9_bend_60 : decode cX9_bend 60 = .ok (.bipush (-4), 2) := by decide +kernel
theorem dX9_bend_62 : decode cX9_bend 62 = .ok (.ireturn, 1) := by decide +kernel
theorem dX9_bend_63 : decode cX9_bend 63 = .ok (.aload_n 0, 1) := by decide +kernel
theorem dX9_bend_64 : decode cX9_bend 64 = .ok (.invokevirtual 57, 3) := by decide +kernel
theorem dX9_bend_67 : decode cX9_bend 67 = .ok (.aload_n 0, 1) := by decide +kernel
theorem dX9_bend_68 : decode cX9_bend 68 = .ok (.iload_n 1, 1) := by decide +kernel
theorem dX9_bend_69 : decode cX9_bend 69 = .ok (.iload_n 2, 1) := by decide +kernel
theorem dX9_bend_70 : decode cX9_bend 70 = .ok (.invokevirtual 81, 3) := by decide +kernel
theorem dX9_bend_73 : decode cX9_bend 73 = .ok (.aload_n 0, 1) := by decide +kernel
theorem dX9_bend_74 : decode cX9_bend 74 = .ok (.iload_n 1, 1) := by decide +kernel
theorem dX9_bend_75 : decode cX9_bend 75 = .ok (.invokevirtual 37, 3) := by decide +kernel
theorem dX9_bend_78 : decode cX9_bend 78 = .ok (.ireturn, 1) := by decide +kernel
theorem dX9_unbend_0 : decode cX9_unbend 0 = .ok (.iload_n 1, 1) := by decide +kernel
theorem dX9_unbend_1 : decode cX9_unbend 1 = .ok (.invokestatic 75, 3) := by decide +kernel
theorem dX9_unbend_4 : decode cX9_unbend 4 = .ok (.ifCond .ne 5, 3) := by decide +kernel
theorem dX9_unbend_7 : decode cX9_unbend 7 = .ok (.iconst (-1), 1) := by decide +kernel
theorem dX9_unbend_8 : decode cX9_unbend 8 = .ok (.ireturn, 1) := by decide +kernel
theorem dX9_unbend_9 : decode cX9_unbend 9 = .ok (.aload_n 0, 1) := by decide +kernel
theorem dX9_unbend_10 : decode cX9_unbend 10 = .ok (.iload_n 1, 1) := by decide +kernel
theorem dX9_unbend_11 : decode cX9_unbend 11 = .ok (.invokevirtual 37, 3) := by decide +kernel
theorem dX9_unbend_14 : decode cX9_unbend 14 = .ok (.ifCond .ne 6, 3) := by decide +kernel
theorem dX9_unbend_17 : decode cX9_unbend 17 = .ok (.bipush (-3), 2) := by decide +kernel
theorem dX9_unbend_19 : decode cX9_unbend 19 = .ok (.ireturn, 1) := by decide +kernel
theorem dX9_unbend_20 : decode cX9_unbend 20 = .ok (.aload_n 0, 1) := by decide +kernel
theorem dX9_unbend_21 : decode cX9_unbend 21 = .ok (.invokevirtual 57, 3) := by decide +kernel
theorem dX9_unbend_24 : decode cX9_unbend 24 = .ok (.aload_n 0, 1) := by decide +kernel
theorem dX9_unbend_25 : decode cX9_unbend 25 = .ok (.getfield 7, 3) := by decide +kernel
theorem dX9_unbend_28 : decode cX9_unbend 28 = .ok (.bipush 38, 2) := by decide +kernel
theorem dX9_unbend_30 : decode cX9_unbend 30 = .ok (.iconst 5, 1) := by decide +kernel
theorem dX9_unbend_31 : decode cX9_unbend 31 = .ok (.iload_n 1, 1) := by decide +kernel
theorem dX9_unbend_32 : decode cX9_unbend 32 = .ok (.imul, 1) := by decide +kernel
theorem dX9_unbend_33 : decode cX9_unbend 33 = .ok (.iadd, 1) := by decide +kernel
theorem dX9_unbend_34 : decode cX9_unbend 34 = .ok (.dup2, 1) := by decide +kernel
theorem dX9_unbend_35 : decode cX9_unbend 35 = .ok (.iaload, 1) := by decide +kernel
theorem dX9_unbend_36 : decode cX9_unbend 36 = .ok (.iconst 1, 1) := by decide +kernel
theorem dX9_unbend_37 : decode cX9_unbend 37 = .ok (.isub, 1) := by decide +kernel
theorem dX9_unbend_38 : decode cX9_unbend 38 = .ok (.iastore, 1) := by decide +kernel
theorem dX9_unbend_39 : decode cX9_unbend 39 = .ok (.aload_n 0, 1) := by decide +kernel
theorem dX9_unbend_40 : decode cX9_unbend 40 = .ok (.iload_n 1, 1) := by decide +kernel
theorem dX9_unbend_41 : decode cX9_unbend 41 = .ok (.aload_n 0, 1) := by decide +kernel
theorem dX9_unbend_42 : decode cX9_unbend 42 = .ok (.iload_n 1, 1) := by decide +kernel
theorem dX9_unbend_43 : decode cX9_unbend 43 = .ok (.invokevirtual 37, 3) := by decide +kernel
theorem dX9_unbend_46 : decode cX9_unbend 46 = .ok (.iconst 1, 1) := by decide +kernel
theorem dX9_unbend_47 : decode cX9_unbend 47 = .ok (.iadd, 1) := by decide +kernel
theorem dX9_unbend_48 : decode cX9_unbend 48 = .ok (.invokevirtual 60, 3) := by decide +kernel
theorem dX9_unbend_51 : decode cX9_unbend 51 = .ok (.ireturn, 1) := by decide +kernel
theorem dX9_swaps_0 : decode cX9_swaps 0 = .ok (.iconst 0, 1) := by decide +kernel
theorem dX9_swaps_1 : decode cX9_swaps 1 = .ok (.istore_n 3, 1) := by decide +kernel
theorem dX9_swaps_2 : decode cX9_swaps 2 = .ok (.iload_n 3, 1) := by decide +kernel
theorem dX9_swaps_3 : decode cX9_swaps 3 = .ok (.iconst 5, 1) := by decide +kernel
theorem dX9_swaps_4 : decode cX9_swaps 4 = .ok (.if_icmp .ge 65, 3) := by decide +kernel
theorem dX9_swaps_7 : decode cX9_swaps 7 = .ok (.aload_n 0, 1) := by decide +kernel
theorem dX9_swaps_8 : decode cX9_swaps 8 = .ok (.getfield 7, 3) := by decide +kernel
theorem dX9_swaps_11 : decode cX9_swaps 11 = .ok (.bipush 38, 2) := by decide +kernel
theorem dX9_swaps_13 : decode cX9_swaps 13 = .ok (.iconst 5, 1) := by decide +kernel
theorem dX9_swaps_14 : decode cX9_swaps 14 = .ok (.iload_n 1, 1) := by decide +kernel
theorem dX9_swaps_15 : decode cX9_swaps 15 = .ok (.imul, 1) := by decide +kernel
theorem dX9_swaps_16 : decode cX9_swaps 16 = .ok (.iadd, 1) := by decide +kernel
theorem dX9_swaps_17 : decode cX9_swaps 17 = .ok (.iload_n 3, 1) := by decide +kernel
theorem dX9_swaps_18 : decode cX9_swaps 18 = .ok (.iadd, 1) := by decide +kernel
theorem dX9_swaps_19 : decode cX9_swaps 19 = .ok (.iaload, 1) := by decide +kernel
theorem dX9_swaps_20 : decode cX9_swaps 20 = .ok (.istore 4, 2) := by decide +kernel
theorem dX9_swaps_22 : decode cX9_swaps 22 = .ok (.aload_n 0, 1) := by decide +kernel
theorem dX9_swaps_23 : decode cX9_swaps 23 = .ok (.getfield 7, 3) := by decide +kernel
theorem dX9_swaps_26 : decode cX9_swaps 26 = .ok (.bipush 38, 2) := by decide +kernel
theorem dX9_swaps_28 : decode cX9_swaps 28 = .ok (.iconst 5, 1) := by decide +kernel
theorem dX9_swaps_29 : decode cX9_swaps 29 = .ok (.iload_n 1, 1) := by decide +kernel
theorem dX9_swaps_30 : decode cX9_swaps 30 = .ok (.imul, 1) := by decide +kernel
theorem dX9_swaps_31 : decode cX9_swaps 31 = .ok (.iadd, 1) := by decide +kernel
theorem dX9_swaps_32 : decode cX9_swaps 32 = .ok (.iload_n 3, 1) := by decide +kernel
theorem dX9_swaps_33 : decode cX9_swaps 33 = .ok (.iadd, 1) := by decide +kernel
theorem dX9_swaps_34 : decode cX9_swaps 34 = .ok (.aload_n 0, 1) := by decide +kernel
theorem dX9_swaps_35 : decode cX9_swaps 35 = .ok (.getfield 7, 3) := by decide +kernel
theorem dX9_swaps_38 : decode cX9_swaps 38 = .ok (.bipush 38, 2) := by decide +kernel
theorem dX9_swaps_40 : decode cX9_swaps 40 = .ok (.iconst 5, 1) := by decide +kernel
theorem dX9_swaps_41 : decode cX9_swaps 41 = .ok (.iload_n 2, 1) := by decide +kernel
theorem dX9_swaps_42 : decode cX9_swaps 42 = .ok (.imul, 1) := by decide +kernel
theorem dX9_swaps_43 : decode cX9_swaps 43 = .ok (.iadd, 1) := by decide +kernel
theorem dX9_swaps_44 : decode cX9_swaps 44 = .ok (.iload_n 3, 1) := by decide +kernel
theorem dX9_swaps_45 : decode cX9_swaps 45 = .ok (.iadd, 1) := by decide +kernel
theorem dX9_swaps_46 : decode cX9_swaps 46 = .ok (.iaload, 1) := by decide +kernel
theorem dX9_swaps_47 : decode cX9_swaps 47 = .ok (.iastore, 1) := by decide +kernel
theorem dX9_swaps_48 : decode cX9_swaps 48 = .ok (.aload_n 0, 1) := by decide +kernel
theorem dX9_swaps_49 : decode cX9_swaps 49 = .ok (.getfield 7, 3) := by decide +kernel
theorem dX9_swaps_52 : decode cX9_swaps 52 = .ok (.bipush 38, 2) := by decide +kernel
theorem dX9_swaps_54 : decode cX9_swaps 54 = .ok (.iconst 5, 1) := by decide +kernel
theorem dX9_swaps_55 : decode cX9_swaps 55 = .ok (.iload_n 2, 1) := by decide +kernel
theorem dX9_swaps_56 : decode cX9_swaps 56 = .ok (.imul, 1) := by decide +kernel
theorem dX9_swaps_57 : decode cX9_swaps 57 = .ok (.iadd, 1) := by decide +kernel
theorem dX9_swaps_58 : decode cX9_swaps 58 = .ok (.iload_n 3, 1) := by decide +kernel
theorem dX9_swaps_59 : decode cX9_swaps 59 = .ok (.iadd, 1) := by decide +kernel
theorem dX9_swaps_60 : decode cX9_swaps 60 = .ok (.iload 4, 2) := by decide +kernel
theorem dX9_swaps_62 : decode cX9_swaps 62 = .ok (.iastore, 1) := by decide +kernel
theorem dX9_swaps_63 : decode cX9_swaps 63 = .ok (.iinc 3 1, 3) := by decide +kernel
theorem dX9_swaps_66 : decode cX9_swaps 66 = .ok (.goto (-64), 3) := by decide +kernel
theorem dX9_swaps_69 : decode cX9_swaps 69 = .ok (.return_, 1) := by decide +kernel
theorem dX9_exchange_0 : decode cX9_exchange 0 = .ok (.iload_n 1, 1) := by decide +kernel
theorem dX9_exchange_1 : decode cX9_exchange 1 = .ok (.invokestatic 75, 3) := by decide +kernel
theorem dX9_exchange_4 : decode cX9_exchange 4 = .ok (.ifCond .eq 10, 3) := by decide +kernel
theorem dX9_exchange_7 : decode cX9_exchange 7 = .ok (.iload_n 2, 1) := by decide +kernel
theorem dX9_exchange_8 : decode cX9_exchange 8 = .ok (.invokestatic 75, 3) := by decide +kernel
theorem dX9_exchange_11 : decode cX9_exchange 11 = .ok (.ifCond .ne 5, 3) := by decide +kernel
theorem dX9_exchange_14 : decode cX9_exchange 14 = .ok (.iconst (-1), 1) := by decide +kernel
theorem dX9_exchange_15 : decode cX9_exchange 15 = .ok (.ireturn, 1) := by decide +kernel
theorem dX9_exchange_16 : decode cX9_exchange 16 = .ok (.iload_n 1, 1) := by decide +kernel
theorem dX9_exchange_17 : decode cX9_exchange 17 = .ok (.iload_n 2, 1) := by decide +kernel
theorem dX9_exchange_18 : decode cX9_exchange 18 = .ok (.if_icmp .ne 6, 3) := by decide +kernel
theorem dX9_exchange_21 : decode cX9_exchange 21 = .ok (.bipush (-2), 2) := by decide +kernel
theorem dX9_exchange_23 : decode cX9_exchange 23 = .ok (.ireturn, 1) := by decide +kernel
theorem dX9_exchange_24 : decode cX9_exchange 24 = .ok (.aload_n 0, 1) := by decide +kernel
theorem dX9_exchange_25 : decode cX9_exchange 25 = .ok (.invokevirtual 57, 3) := by decide +kernel
theorem dX9_exchange_28 : decode cX9_exchange 28 = .ok (.aload_n 0, 1) := by decide +kernel
theorem dX9_exchange_29 : decode cX9_exchange 29 = .ok (.iload_n 1, 1) := by decide +kernel
theorem dX9_exchange_30 : decode cX9_exchange 30 = .ok (.iload_n 2, 1) := by decide +kernel
theorem dX9_exchange_31 : decode cX9_exchange 31 = .ok (.invokevirtual 85, 3) := by decide +kernel
theorem dX9_exchange_34 : decode cX9_exchange 34 = .ok (.aload_n 0, 1) := by decide +kernel
theorem dX9_exchange_35 : decode cX9_exchange 35 = .ok (.iload_n 1, 1) := by decide +kernel
theorem dX9_exchange_36 : decode cX9_exchange 36 = .ok (.invokevirtual 37, 3) := by decide +kernel
theorem dX9_exchange_39 : decode cX9_exchange 39 = .ok (.aload_n 0, 1) := by decide +kernel
theorem dX9_exchange_40 : decode cX9_exchange 40 = .ok (.iload_n 2, 1) := by decide +kernel
theorem dX9_exchange_41 : decode cX9_exchange 41 = .ok (.invokevirtual 37, 3) := by decide +kernel
theorem dX9_exchange_44 : decode cX9_exchange 44 = .ok (.iadd, 1) := by decide +kernel
theorem dX9_exchange_45 : decode cX9_exchange 45 = .ok (.ireturn, 1) := by decide +kernel
theorem dX9_hoists_0 : decode cX9_hoists 0 = .ok (.iconst 0, 1) := by decide +kernel
theorem dX9_hoists_1 : decode cX9_hoists 1 = .ok (.istore_n 1, 1) := by decide +kernel
theorem dX9_hoists_2 : decode cX9_hoists 2 = .ok (.iconst 0, 1) := by decide +kernel
theorem dX9_hoists_3 : decode cX9_hoists 3 = .ok (.istore_n 2, 1) := by decide +kernel
theorem dX9_hoists_4 : decode cX9_hoists 4 = .ok (.iload_n 2, 1) := by decide +kernel
theorem dX9_hoists_5 : decode cX9_hoists 5 = .ok (.iconst 5, 1) := by decide +kernel
theorem dX9_hoists_6 : decode cX9_hoists 6 = .ok (.if_icmp .ge 25, 3) := by decide +kernel
theorem dX9_hoists_9 : decode cX9_hoists 9 = .ok (.iload_n 1, 1) := by decide +kernel
theorem dX9_hoists_10 : decode cX9_hoists 10 = .ok (.aload_n 0, 1) := by decide +kernel
theorem dX9_hoists_11 : decode cX9_hoists 11 = .ok (.iload_n 2, 1) := by decide +kernel
theorem dX9_hoists_12 : decode cX9_hoists 12 = .ok (.invokevirtual 37, 3) := by decide +kernel
theorem dX9_hoists_15 : decode cX9_hoists 15 = .ok (.ifCond .le 7, 3) := by decide +kernel
theorem dX9_hoists_18 : decode cX9_hoists 18 = .ok (.iconst 1, 1) := by decide +kernel
theorem dX9_hoists_19 : decode cX9_hoists 19 = .ok (.goto 4, 3) := by decide +kernel
theorem dX9_hoists_22 : decode cX9_hoists 22 = .ok (.iconst 0, 1) := by decide +kernel
theorem dX9_hoists_23 : decode cX9_hoists 23 = .ok (.iadd, 1) := by decide +kernel
theorem dX9_hoists_24 : decode cX9_hoists 24 = .ok (.istore_n 1, 1) := by decide +kernel
theorem dX9_hoists_25 : decode cX9_hoists 25 = .ok (.iinc 2 1, 3) := by decide +kernel
theorem dX9_hoists_28 : decode cX9_hoists 28 = .ok (.goto (-24), 3) := by decide +kernel
theorem dX9_hoists_31 : decode cX9_hoists 31 = .ok (.iload_n 1, 1) := by decide +kernel
theorem dX9_hoists_32 : decode cX9_hoists 32 = .ok (.ireturn, 1) := by decide +kernel
theorem dX9_makeEmpty_0 : decode cX9_makeEmpty 0 = .ok (.iconst 0, 1) := by decide +kernel
theorem dX9_makeEmpty_1 : decode cX9_makeEmpty 1 = .ok (.istore_n 1, 1) := by decide +kernel
theorem dX9_makeEmpty_2 : decode cX9_makeEmpty 2 = .ok (.iload_n 1, 1) := by decide +kernel
theorem dX9_makeEmpty_3 : decode cX9_makeEmpty 3 = .ok (.iconst 5, 1) := by decide +kernel
theorem dX9_makeEmpty_4 : decode cX9_makeEmpty 4 = .ok (.if_icmp .ge 21, 3) := by decide +kernel
theorem dX9_makeEmpty_7 : decode cX9_makeEmpty 7 = .ok (.aload_n 0, 1) := by decide +kernel
theorem dX9_makeEmpty_8 : decode cX9_makeEmpty 8 = .ok (.getfield 7, 3) := by decide +kernel
theorem dX9_makeEmpty_11 : decode cX9_makeEmpty 11 = .ok (.bipush 38, 2) := by decide +kernel
theorem dX9_makeEmpty_13 : decode cX9_makeEmpty 13 = .ok (.iconst 5, 1) := by decide +kernel
theorem dX9_makeEmpty_14 : decode cX9_makeEmpty 14 = .ok (.iload_n 1, 1) := by decide +kernel
theorem dX9_makeEmpty_15 : decode cX9_makeEmpty 15 = .ok (.imul, 1) := by decide +kernel
theorem dX9_makeEmpty_16 : decode cX9_makeEmpty 16 = .ok (.iadd, 1) := by decide +kernel
theorem dX9_makeEmpty_17 : decode cX9_makeEmpty 17 = .ok (.iconst 0, 1) := by decide +kernel
theorem dX9_makeEmpty_18 : decode cX9_makeEmpty 18 = .ok (.iastore, 1) := by decide +kernel
theorem dX9_makeEmpty_19 : decode cX9_makeEmpty 19 = .ok (.iinc 1 1, 3) := by decide +kernel
theorem dX9_makeEmpty_22 : decode cX9_makeEmpty 22 = .ok (.goto (-20), 3) := by decide +kernel
theorem dX9_makeEmpty_25 : decode cX9_makeEmpty 25 = .ok (.return_, 1) := by decide +kernel
theorem dX9_logs_0 : decode cX9_logs 0 = .ok (.aload_n 0, 1) := by decide +kernel
theorem dX9_logs_1 : decode cX9_logs 1 = .ok (.getfield 7, 3) := by decide +kernel
theorem dX9_logs_4 : decode cX9_logs 4 = .ok (.bipush 6, 2) := by decide +kernel
theorem dX9_logs_6 : decode cX9_logs 6 = .ok (.iaload, 1) := by decide +kernel
theorem dX9_logs_7 : decode cX9_logs 7 = .ok (.bipush 8, 2) := by decide +kernel
theorem dX9_logs_9 : decode cX9_logs 9 = .ok (.if_icmp .ne 45, 3) := by decide +kernel
theorem dX9_logs_12 : decode cX9_logs 12 = .ok (.bipush 87, 2) := by decide +kernel
theorem dX9_logs_14 : decode cX9_logs 14 = .ok (.istore_n 1, 1) := by decide +kernel
theorem dX9_logs_15 : decode cX9_logs 15 = .ok (.iload_n 1, 1) := by decide +kernel
theorem dX9_logs_16 : decode cX9_logs 16 = .ok (.sipush 129, 3) := by decide +kernel
theorem dX9_logs_19 : decode cX9_logs 19 = .ok (.if_icmp .ge 24, 3) := by decide +kernel
theorem dX9_logs_22 : decode cX9_logs 22 = .ok (.aload_n 0, 1) := by decide +kernel
theorem dX9_logs_23 : decode cX9_logs 23 = .ok (.getfield 7, 3) := by decide +kernel
theorem dX9_logs_26 : decode cX9_logs 26 = .ok (.iload_n 1, 1) := by decide +kernel
theorem dX9_logs_27 : decode cX9_logs 27 = .ok (.aload_n 0, 1) := by decide +kernel
theorem dX9_logs_28 : decode cX9_logs 28 = .ok (.getfield 7, 3) := by decide +kernel
theorem dX9_logs_31 : decode cX9_logs 31 = .ok (.iload_n 1, 1) := by decide +kernel
theorem dX9_logs_32 : decode cX9_logs 32 = .ok (.bipush 6, 2) := by decide +kernel
theorem dX9_logs_34 : decode cX9_logs 34 = .ok (.iadd, 1) := by decide +kernel
theorem dX9_logs_35 : decode cX9_logs 35 = .ok (.iaload, 1) := by decide +kernel
theorem dX9_logs_36 : decode cX9_logs 36 = .ok (.iastore, 1) := by decide +kernel
theorem dX9_logs_37 : decode cX9_logs 37 = .ok (.iinc 1 1, 3) := by decide +kernel
theorem dX9_logs_40 : decode cX9_logs 40 = .ok (.goto (-25), 3) := by decide +kernel
theorem dX9_logs_43 : decode cX9_logs 43 = .ok (.aload_n 0, 1) := by decide +kernel
theorem dX9_logs_44 : decode cX9_logs 44 = .ok (.getfield 7, 3) := by decide +kernel
theorem dX9_logs_47 : decode cX9_logs 47 = .ok (.bipush 6, 2) := by decide +kernel
theorem dX9_logs_49 : decode cX9_logs 49 = .ok (.dup2, 1) := by decide +kernel
theorem dX9_logs_50 : decode cX9_logs 50 = .ok (.iaload, 1) := by decide +kernel
theorem dX9_logs_51 : decode cX9_logs 51 = .ok (.iconst 1, 1) := by decide +kernel
theorem dX9_logs_52 : decode cX9_logs 52 = .ok (.isub, 1) := by decide +kernel
theorem dX9_logs_53 : decode cX9_logs 53 = .ok (.iastore, 1) := by decide +kernel
theorem dX9_logs_54 : decode cX9_logs 54 = .ok (.bipush 87, 2) := by decide +kernel
theorem dX9_logs_56 : decode cX9_logs 56 = .ok (.bipush 6, 2) := by decide +kernel
theorem dX9_logs_58 : decode cX9_logs 58 = .ok (.aload_n 0, 1) := by decide +kernel
theorem dX9_logs_59 : decode cX9_logs 59 = .ok (.getfield 7, 3) := by decide +kernel
theorem dX9_logs_62 : decode cX9_logs 62 = .ok (.bipush 6, 2) := by decide +kernel
theorem dX9_logs_64 : decode cX9_logs 64 = .ok (.iaload, 1) := by decide +kernel
theorem dX9_logs_65 : decode cX9_logs 65 = .ok (.imul, 1) := by decide +kernel
theorem dX9_logs_66 : decode cX9_logs 66 = .ok (.iadd, 1) := by decide +kernel
theorem dX9_logs_67 : decode cX9_logs 67 = .ok (.istore_n 1, 1) := by decide +kernel
theorem dX9_logs_68 : decode cX9_logs 68 = .ok (.aload_n 0, 1) := by decide +kernel
theorem dX9_logs_69 : decode cX9_logs 69 = .ok (.getfield 7, 3) := by decide +kernel
theorem dX9_logs_72 : decode cX9_logs 72 = .ok (.iload_n 1, 1) := by decide +kernel
theorem dX9_logs_73 : decode cX9_logs 73 = .ok (.aload_n 0, 1) := by decide +kernel
theorem dX9_logs_74 : decode cX9_logs 74 = .ok (.invokevirtual 88, 3) := by decide +kernel
theorem dX9_logs_77 : decode cX9_logs 77 = .ok (.iastore, 1) := by decide +kernel
theorem dX9_logs_78 : decode cX9_logs 78 = .ok (.iconst 0, 1) := by decide +kernel
theorem dX9_logs_79 : decode cX9_logs 79 = .ok (.istore_n 2, 1) := by decide +kernel
theorem dX9_logs_80 : decode cX9_logs 80 = .ok (.iload_n 2, 1) := by decide +kernel
theorem dX9_logs_81 : decode cX9_logs 81 = .ok (.iconst 5, 1) := by decide +kernel
theorem dX9_logs_82 : decode cX9_logs 82 = .ok (.if_icmp .ge 42, 3) := by decide +kernel
theorem dX9_logs_85 : decode cX9_logs 85 = .ok (.aload_n 0, 1) := by decide +kernel
theorem dX9_logs_86 : decode cX9_logs 86 = .ok (.getfield 7, 3) := by decide +kernel
theorem dX9_logs_89 : decode cX9_logs 89 = .ok (.iload_n 1, 1) := by decide +kernel
theorem dX9_logs_90 : decode cX9_logs 90 = .ok (.iconst 1, 1) := by decide +kernel
theorem dX9_logs_91 : decode cX9_logs 91 = .ok (.iadd, 1) := by decide +kernel
theorem dX9_logs_92 : decode cX9_logs 92 = .ok (.iload_n 2, 1) := by decide +kernel
theorem dX9_logs_93 : decode cX9_logs 93 = .ok (.iadd, 1) := by decide +kernel
theorem dX9_logs_94 : decode cX9_logs 94 = .ok (.iload_n 2, 1) := by decide +kernel
theorem dX9_logs_95 : decode cX9_logs 95 = .ok (.aload_n 0, 1) := by decide +kernel
theorem dX9_logs_96 : decode cX9_logs 96 = .ok (.invokevirtual 88, 3) := by decide +kernel
theorem dX9_logs_99 : decode cX9_logs 99 = .ok (.if_icmp .ge 17, 3) := by decide +kernel
theorem dX9_logs_102 : decode cX9_logs 102 = .ok (.aload_n 0, 1) := by decide +kernel
theorem dX9_logs_103 : decode cX9_logs 103 = .ok (.aload_n 0, 1) := by decide +kernel
theorem dX9_logs_104 : decode cX9_logs 104 = .ok (.getfield 7, 3) := by decide +kernel
theorem dX9_logs_107 : decode cX9_logs 107 = .ok (.iconst 3, 1) := by decide +kernel
theorem dX9_logs_108 : decode cX9_logs 108 = .ok (.iaload, 1) := by decide +kernel
theorem dX9_logs_109 : decode cX9_logs 109 = .ok (.iload_n 2, 1) := by decide +kernel
theorem dX9_logs_110 : decode cX9_logs 110 = .ok (.invokevirtual 91, 3) := by decide +kernel
theorem dX9_logs_113 : decode cX9_logs 113 = .ok (.goto 4, 3) := by decide +kernel
theorem dX9_logs_116 : decode cX9_logs 116 = .ok (.iconst 0, 1) := by decide +kernel
theorem dX9_logs_117 : decode cX9_logs 117 = .ok (.iastore, 1) := by decide +kernel
theorem dX9_logs_118 : decode cX9_logs 118 = .ok (.iinc 2 1, 3) := by decide +kernel
theorem dX9_logs_121 : decode cX9_logs 121 = .ok (.goto (-41), 3) := by decide +kernel
theorem dX9_logs_124 : decode cX9_logs 124 = .ok (.aload_n 0, 1) := by decide +kernel
theorem dX9_logs_125 : decode cX9_logs 125 = .ok (.getfield 7, 3) := by decide +kernel
theorem dX9_logs_128 : decode cX9_logs 128 = .ok (.bipush 6, 2) := by decide +kernel
theorem dX9_logs_130 : decode cX9_logs 130 = .ok (.dup2, 1) := by decide +kernel
theorem dX9_logs_131 : decode cX9_logs 131 = .ok (.iaload, 1) := by decide +kernel
theorem dX9_logs_132 : decode cX9_logs 132 = .ok (.iconst 1, 1) := by decide +kernel
theorem dX9_logs_133 : decode cX9_logs 133 = .ok (.iadd, 1) := by decide +kernel
theorem dX9_logs_134 : decode cX9_logs 134 = .ok (.iastore, 1) := by decide +kernel
theorem dX9_logs_135 : decode cX9_logs 135 = .ok (.aload_n 0, 1) := by decide +kernel
theorem dX9_logs_136 : decode cX9_logs 136 = .ok (.getfield 7, 3) := by decide +kernel
theorem dX9_logs_139 : decode cX9_logs 139 = .ok (.bipush 7, 2) := by decide +kernel
theorem dX9_logs_141 : decode cX9_logs 141 = .ok (.dup2, 1) := by decide +kernel
theorem dX9_logs_142 : decode cX9_logs 142 = .ok (.iaload, 1) := by decide +kernel
theorem dX9_logs_143 : decode cX9_logs 143 = .ok (.iconst 1, 1) := by decide +kernel
theorem dX9_logs_144 : decode cX9_logs 144 = .ok (.iadd, 1) := by decide +kernel
theorem dX9_logs_145 : decode cX9_logs 145 = .ok (.iastore, 1) := by decide +kernel
theorem dX9_logs_146 : decode cX9_logs 146 = .ok (.return_, 1) := by decide +kernel
theorem dX9_lower_0 : decode cX9_lower 0 = .ok (.aload_n 0, 1) := by decide +kernel
theorem dX9_lower_1 : decode cX9_lower 1 = .ok (.invokevirtual 34, 3) := by decide +kernel
theorem dX9_lower_4 : decode cX9_lower 4 = .ok (.aload_n 0, 1) := by decide +kernel
theorem dX9_lower_5 : decode cX9_lower 5 = .ok (.getfield 7, 3) := by decide +kernel
theorem dX9_lower_8 : decode cX9_lower 8 = .ok (.iconst 4, 1) := by decide +kernel
theorem dX9_lower_9 : decode cX9_lower 9 = .ok (.iaload, 1) := by decide +kernel
theorem dX9_lower_10 : decode cX9_lower 10 = .ok (.iconst 2, 1) := by decide +kernel
theorem dX9_lower_11 : decode cX9_lower 11 = .ok (.if_icmp .ne 10, 3) := by decide +kernel
theorem dX9_lower_14 : decode cX9_lower 14 = .ok (.aload_n 0, 1) := by decide +kernel
theorem dX9_lower_15 : decode cX9_lower 15 = .ok (.invokevirtual 88, 3) := by decide +kernel
theorem dX9_lower_18 : decode cX9_lower 18 = .ok (.goto 4, 3) := by decide +kernel
theorem dX9_lower_21 : decode cX9_lower 21 = .ok (.iconst 0, 1) := by decide +kernel
theorem dX9_lower_22 : decode cX9_lower 22 = .ok (.istore_n 1, 1) := by decide +kernel
theorem dX9_lower_23 : decode cX9_lower 23 = .ok (.iload_n 1, 1) := by decide +kernel
theorem dX9_lower_24 : decode cX9_lower 24 = .ok (.ifCond .le 7, 3) := by decide +kernel
theorem dX9_lower_27 : decode cX9_lower 27 = .ok (.aload_n 0, 1) := by decide +kernel
theorem dX9_lower_28 : decode cX9_lower 28 = .ok (.invokevirtual 94, 3) := by decide +kernel
theorem dX9_lower_31 : decode cX9_lower 31 = .ok (.aload_n 0, 1) := by decide +kernel
theorem dX9_lower_32 : decode cX9_lower 32 = .ok (.invokevirtual 97, 3) := by decide +kernel
theorem dX9_lower_35 : decode cX9_lower 35 = .ok (.aload_n 0, 1) := by decide +kernel
theorem dX9_lower_36 : decode cX9_lower 36 = .ok (.getfield 7, 3) := by decide +kernel
theorem dX9_lower_39 : decode cX9_lower 39 = .ok (.iconst 4, 1) := by decide +kernel
theorem dX9_lower_40 : decode cX9_lower 40 = .ok (.iconst 0, 1) := by decide +kernel
theorem dX9_lower_41 : decode cX9_lower 41 = .ok (.iastore, 1) := by decide +kernel
theorem dX9_lower_42 : decode cX9_lower 42 = .ok (.iload_n 1, 1) := by decide +kernel
theorem dX9_lower_43 : decode cX9_lower 43 = .ok (.ireturn, 1) := by decide +kernel
theorem dX9_isPlace_0 : decode cX9_isPlace 0 = .ok (.iload_n 1, 1) := by decide +kernel
theorem dX9_isPlace_1 : decode cX9_isPlace 1 = .ok (.invokestatic 75, 3) := by decide +kernel
theorem dX9_isPlace_4 : decode cX9_isPlace 4 = .ok (.ifCond .eq 20, 3) := by decide +kernel
theorem dX9_isPlace_7 : decode cX9_isPlace 7 = .ok (.iload_n 2, 1) := by decide +kernel
theorem dX9_isPlace_8 : decode cX9_isPlace 8 = .ok (.iconst 1, 1) := by decide +kernel
theorem dX9_isPlace_9 : decode cX9_isPlace 9 = .ok (.aload_n 0, 1) := by decide +kernel
theorem dX9_isPlace_10 : decode cX9_isPlace 10 = .ok (.iload_n 1, 1) := by decide +kernel
theorem dX9_isPlace_11 : decode cX9_isPlace 11 = .ok (.invokevirtual 37, 3) := by decide +kernel
theorem dX9_isPlace_14 : decode cX9_isPlace 14 = .ok (.invokestatic 26, 3) := by decide +kernel
theorem dX9_isPlace_17 : decode cX9_isPlace 17 = .ok (.ifCond .eq 7, 3) := by decide +kernel
theorem dX9_isPlace_20 : decode cX9_isPlace 20 = .ok (.iconst 1, 1) := by decide +kernel
theorem dX9_isPlace_21 : decode cX9_isPlace 21 = .ok (.goto 4, 3) := by decide +kernel
theorem dX9_isPlace_24 : decode cX9_isPlace 24 = .ok (.iconst 0, 1) := by decide +kernel
theorem dX9_isPlace_25 : decode cX9_isPlace 25 = .ok (.ireturn, 1) := by decide +kernel
theorem dX9_flagOn_0 : decode cX9_flagOn 0 = .ok (.iload_n 2, 1) := by decide +kernel
theorem dX9_flagOn_1 : decode cX9_flagOn 1 = .ok (.istore_n 3, 1) := by decide +kernel
theorem dX9_flagOn_2 : decode cX9_flagOn 2 = .ok (.aload_n 0, 1) := by decide +kernel
theorem dX9_flagOn_3 : decode cX9_flagOn 3 = .ok (.iload_n 1, 1) := by decide +kernel
theorem dX9_flagOn_4 : decode cX9_flagOn 4 = .ok (.iload_n 3, 1) := by decide +kernel
theorem dX9_flagOn_5 : decode cX9_flagOn 5 = .ok (.invokevirtual 60, 3) := by decide +kernel
theorem dX9_flagOn_8 : decode cX9_flagOn 8 = .ok (.bipush 10, 2) := by decide +kernel
theorem dX9_flagOn_10 : decode cX9_flagOn 10 = .ok (.if_icmp .le 16, 3) := by decide +kernel
theorem dX9_flagOn_13 : decode cX9_flagOn 13 = .ok (.aload_n 0, 1) := by decide +kernel
theorem dX9_flagOn_14 : decode cX9_flagOn 14 = .ok (.iload_n 1, 1) := by decide +kernel
theorem dX9_flagOn_15 : decode cX9_flagOn 15 = .ok (.iload_n 3, 1) := by decide +kernel
theorem dX9_flagOn_16 : decode cX9_flagOn 16 = .ok (.invokevirtual 60, 3) := by decide +kernel
theorem dX9_flagOn_19 : decode cX9_flagOn 19 = .ok (.bipush 10, 2) := by decide +kernel
theorem dX9_flagOn_21 : decode cX9_flagOn 21 = .ok (.isub, 1) := by decide +kernel
theorem dX9_flagOn_22 : decode cX9_flagOn 22 = .ok (.istore_n 3, 1) := by decide +kernel
theorem dX9_flagOn_23 : decode cX9_flagOn 23 = .ok (.goto (-21), 3) := by decide +kernel
theorem dX9_flagOn_26 : decode cX9_flagOn 26 = .ok (.aload_n 0, 1) := by decide +kernel
theorem dX9_flagOn_27 : decode cX9_flagOn 27 = .ok (.iload_n 1, 1) := by decide +kernel
theorem dX9_flagOn_28 : decode cX9_flagOn 28 = .ok (.iload_n 3, 1) := by decide +kernel
theorem dX9_flagOn_29 : decode cX9_flagOn 29 = .ok (.invokevirtual 60, 3) := by decide +kernel
theorem dX9_flagOn_32 : decode cX9_flagOn 32 = .ok (.ireturn, 1) := by decide +kernel
theorem dX9_droops_0 : decode cX9_droops 0 = .ok (.aload_n 0, 1) := by decide +kernel
theorem dX9_droops_1 : decode cX9_droops 1 = .ok (.iload_n 1, 1) := by decide +kernel
theorem dX9_droops_2 : decode cX9_droops 2 = .ok (.iconst 2, 1) := by decide +kernel
theorem dX9_droops_3 : decode cX9_droops 3 = .ok (.invokevirtual 49, 3) := by decide +kernel
theorem dX9_droops_6 : decode cX9_droops 6 = .ok (.aload_n 0, 1) := by decide +kernel
theorem dX9_droops_7 : decode cX9_droops 7 = .ok (.getfield 7, 3) := by decide +kernel
theorem dX9_droops_10 : decode cX9_droops 10 = .ok (.iconst 1, 1) := by decide +kernel
theorem dX9_droops_11 : decode cX9_droops 11 = .ok (.iaload, 1) := by decide +kernel
theorem dX9_droops_12 : decode cX9_droops 12 = .ok (.if_icmp .le 7, 3) := by decide +kernel
theorem dX9_droops_15 : decode cX9_droops 15 = .ok (.iconst 1, 1) := by decide +kernel
theorem dX9_droops_16 : decode cX9_droops 16 = .ok (.goto 4, 3) := by decide +kernel
theorem dX9_droops_19 : decode cX9_droops 19 = .ok (.iconst 0, 1) := by decide +kernel
theorem dX9_droops_20 : decode cX9_droops 20 = .ok (.ireturn, 1) := by decide +kernel
theorem dX9_sign_0 : decode cX9_sign 0 = .ok (.aload_n 0, 1) := by decide +kernel
theorem dX9_sign_1 : decode cX9_sign 1 = .ok (.iload_n 1, 1) := by decide +kernel
theorem dX9_sign_2 : decode cX9_sign 2 = .ok (.iload_n 2, 1) := by decide +kernel
theorem dX9_sign_3 : decode cX9_sign 3 = .ok (.invokevirtual 100, 3) := by decide +kernel
theorem dX9_sign_6 : decode cX9_sign 6 = .ok (.ifCond .ne 5, 3) := by decide +kernel
theorem dX9_sign_9 : decode cX9_sign 9 = .ok (.iconst (-1), 1) := by decide +kernel
theorem dX9_sign_10 : decode cX9_sign 10 = .ok (.ireturn, 1) := by decide +kernel
theorem dX9_sign_11 : decode cX9_sign 11 = .ok (.iload_n 3, 1) := by decide +kernel
theorem dX9_sign_12 : decode cX9_sign 12 = .ok (.tableswitch 61 0 2 #[28, 35, 42], 28) := by decide +kernel
theorem dX9_sign_40 : decode cX9_sign 40 = .ok (.aload_n 0, 1) := by decide +kernel
theorem dX9_sign_41 : decode cX9_sign 41 = .ok (.iload_n 1, 1) := by decide +kernel
theorem dX9_sign_42 : decode cX9_sign 42 = .ok (.iload_n 2, 1) := by decide +kernel
theorem dX9_sign_43 : decode cX9_sign 43 = .ok (.invokevirtual 60, 3) := by decide +kernel
theorem dX9_sign_46 : decode cX9_sign 46 = .ok (.ireturn, 1) := by decide +kernel
theorem dX9_sign_47 : decode cX9_sign 47 = .ok (.aload_n 0, 1) := by decide +kernel
theorem dX9_sign_48 : decode cX9_sign 48 = .ok (.iload_n 1, 1) := by decide +kernel
theorem dX9_sign_49 : decode cX9_sign 49 = .ok (.iload_n 2, 1) := by decide +kernel
theorem dX9_sign_50 : decode cX9_sign 50 = .ok (.invokevirtual 104, 3) := by decide +kernel
theorem dX9_sign_53 : decode cX9_sign 53 = .ok (.ireturn, 1) := by decide +kernel
theorem dX9_sign_54 : decode cX9_sign 54 = .ok (.aload_n 0, 1) := by decide +kernel
theorem dX9_sign_55 : decode cX9_sign 55 = .ok (.aload_n 0, 1) := by decide +kernel
theorem dX9_sign_56 : decode cX9_sign 56 = .ok (.iload_n 1, 1) := by decide +kernel
theorem dX9_sign_57 : decode cX9_sign 57 = .ok (.iload_n 2, 1) := by decide +kernel
theorem dX9_sign_58 : decode cX9_sign 58 = .ok (.invokevirtual 104, 3) := by decide +kernel
theorem dX9_sign_61 : decode cX9_sign 61 = .ok (.invokevirtual 107, 3) := by decide +kernel
theorem dX9_sign_64 : decode cX9_sign 64 = .ok (.ifCond .eq 7, 3) := by decide +kernel
theorem dX9_sign_67 : decode cX9_sign 67 = .ok (.iconst 1, 1) := by decide +kernel
theorem dX9_sign_68 : decode cX9_sign 68 = .ok (.goto 4, 3) := by decide +kernel
theorem dX9_sign_71 : decode cX9_sign 71 = .ok (.iconst 0, 1) := by decide +kernel
theorem dX9_sign_72 : decode cX9_sign 72 = .ok (.ireturn, 1) := by decide +kernel
theorem dX9_sign_73 : decode cX9_sign 73 = .ok (.bipush (-2), 2) := by decide +kernel
theorem dX9_sign_75 : decode cX9_sign 75 = .ok (.ireturn, 1) := by decide +kernel
theorem dX9_isCode_0 : decode cX9_isCode 0 = .ok (.iload_n 0, 1) := by decide +kernel
theorem dX9_isCode_1 : decode cX9_isCode 1 = .ok (.bipush 10, 2) := by decide +kernel
theorem dX9_isCode_3 : decode cX9_isCode 3 = .ok (.bipush 19, 2) := by decide +kernel
theorem dX9_isCode_5 : decode cX9_isCode 5 = .ok (.invokestatic 26, 3) := by decide +kernel
theorem dX9_isCode_8 : decode cX9_isCode 8 = .ok (.ifCond .ne 41, 3) := by decide +kernel
theorem dX9_isCode_11 : decode cX9_isCode 11 = .ok (.iload_n 0, 1) := by decide +kernel
theorem dX9_isCode_12 : decode cX9_isCode 12 = .ok (.bipush 100, 2) := by decide +kernel
theorem dX9_isCode_14 : decode cX9_isCode 14 = .ok (.sipush 199, 3) := by decide +kernel
theorem dX9_isCode_17 : decode cX9_isCode 17 = .ok (.invokestatic 26, 3) := by decide +kernel
theorem dX9_isCode_20 : decode cX9_isCode 20 = .ok (.ifCond .ne 29, 3) := by decide +kernel
theorem dX9_isCode_23 : decode cX9_isCode 23 = .ok (.iload_n 0, 1) := by decide +kernel
theorem dX9_isCode_24 : decode cX9_isCode 24 = .ok (.sipush 1000, 3) := by decide +kernel
theorem dX9_isCode_27 : decode cX9_isCode 27 = .ok (.sipush 1999, 3) := by decide +kernel
theorem dX9_isCode_30 : decode cX9_isCode 30 = .ok (.invokestatic 26, 3) := by decide +kernel
theorem dX9_isCode_33 : decode cX9_isCode 33 = .ok (.ifCond .ne 16, 3) := by decide +kernel
theorem dX9_isCode_36 : decode cX9_isCode 36 = .ok (.iload_n 0, 1) := by decide +kernel
theorem dX9_isCode_37 : decode cX9_isCode 37 = .ok (.sipush 10000, 3) := by decide +kernel
theorem dX9_isCode_40 : decode cX9_isCode 40 = .ok (.sipush 19999, 3) := by decide +kernel
theorem dX9_isCode_43 : decode cX9_isCode 43 = .ok (.invokestatic 26, 3) := by decide +kernel
theorem dX9_isCode_46 : decode cX9_isCode 46 = .ok (.ifCond .eq 7, 3) := by decide +kernel
theorem dX9_isCode_49 : decode cX9_isCode 49 = .ok (.iconst 1, 1) := by decide +kernel
theorem dX9_isCode_50 : decode cX9_isCode 50 = .ok (.goto 4, 3) := by decide +kernel
theorem dX9_isCode_53 : decode cX9_isCode 53 = .ok (.iconst 0, 1) := by decide +kernel
theorem dX9_isCode_54 : decode cX9_isCode 54 = .ok (.ireturn, 1) := by decide +kernel
theorem dX9_codeOf_0 : decode cX9_codeOf 0 = .ok (.aload_n 0, 1) := by decide +kernel
theorem dX9_codeOf_1 : decode cX9_codeOf 1 = .ok (.getfield 7, 3) := by decide +kernel
theorem dX9_codeOf_4 : decode cX9_codeOf 4 = .ok (.bipush 63, 2) := by decide +kernel
theorem dX9_codeOf_6 : decode cX9_codeOf 6 = .ok (.iconst 2, 1) := by decide +kernel
theorem dX9_codeOf_7 : decode cX9_codeOf 7 = .ok (.iload_n 1, 1) := by decide +kernel
theorem dX9_codeOf_8 : decode cX9_codeOf 8 = .ok (.imul, 1) := by decide +kernel
theorem dX9_codeOf_9 : decode cX9_codeOf 9 = .ok (.iadd, 1) := by decide +kernel
theorem dX9_codeOf_10 : decode cX9_codeOf 10 = .ok (.iaload, 1) := by decide +kernel
theorem dX9_codeOf_11 : decode cX9_codeOf 11 = .ok (.ireturn, 1) := by decide +kernel
theorem dX9_wordOf_0 : decode cX9_wordOf 0 = .ok (.aload_n 0, 1) := by decide +kernel
theorem dX9_wordOf_1 : decode cX9_wordOf 1 = .ok (.getfield 7, 3) := by decide +kernel
theorem dX9_wordOf_4 : decode cX9_wordOf 4 = .ok (.bipush 63, 2) := by decide +kernel
theorem dX9_wordOf_6 : decode cX9_wordOf 6 = .ok (.iconst 2, 1) := by decide +kernel
theorem dX9_wordOf_7 : decode cX9_wordOf 7 = .ok (.iload_n 1, 1) := by decide +kernel
theorem dX9_wordOf_8 : decode cX9_wordOf 8 = .ok (.imul, 1) := by decide +kernel
theorem dX9_wordOf_9 : decode cX9_wordOf 9 = .ok (.iadd, 1) := by decide +kernel
theorem dX9_wordOf_10 : decode cX9_wordOf 10 = .ok (.iconst 1, 1) := by decide +kernel
theorem dX9_wordOf_11 : decode cX9_wordOf 11 = .ok (.iadd, 1) := by decide +kernel
theorem dX9_wordOf_12 : decode cX9_wordOf 12 = .ok (.iaload, 1) := by decide +kernel
theorem dX9_wordOf_13 : decode cX9_wordOf 13 = .ok (.ireturn, 1) := by decide +kernel
theorem dX9_enter_0 : decode cX9_enter 0 = .ok (.iload_n 1, 1) := by decide +kernel
theorem dX9_enter_1 : decode cX9_enter 1 = .ok (.invokestatic 110, 3) := by decide +kernel
theorem dX9_enter_4 : decode cX9_enter 4 = .ok (.ifCond .eq 13, 3) := by decide +kernel
theorem dX9_enter_7 : decode cX9_enter 7 = .ok (.iload_n 2, 1) := by decide +kernel
theorem dX9_enter_8 : decode cX9_enter 8 = .ok (.iconst 0, 1) := by decide +kernel
theorem dX9_enter_9 : decode cX9_enter 9 = .ok (.bipush 99, 2) := by decide +kernel
theorem dX9_enter_11 : decode cX9_enter 11 = .ok (.invokestatic 26, 3) := by decide +kernel
theorem dX9_enter_14 : decode cX9_enter 14 = .ok (.ifCond .ne 6, 3) := by decide +kernel
theorem dX9_enter_17 : decode cX9_enter 17 = .ok (.bipush (-2), 2) := by decide +kernel
theorem dX9_enter_19 : decode cX9_enter 19 = .ok (.ireturn, 1) := by decide +kernel
theorem dX9_enter_20 : decode cX9_enter 20 = .ok (.aload_n 0, 1) := by decide +kernel
theorem dX9_enter_21 : decode cX9_enter 21 = .ok (.getfield 7, 3) := by decide +kernel
theorem dX9_enter_24 : decode cX9_enter 24 = .ok (.iconst 5, 1) := by decide +kernel
theorem dX9_enter_25 : decode cX9_enter 25 = .ok (.iaload, 1) := by decide +kernel
theorem dX9_enter_26 : decode cX9_enter 26 = .ok (.bipush 12, 2) := by decide +kernel
theorem dX9_enter_28 : decode cX9_enter 28 = .ok (.if_icmp .ne 6, 3) := by decide +kernel
theorem dX9_enter_31 : decode cX9_enter 31 = .ok (.bipush (-4), 2) := by decide +kernel
theorem dX9_enter_33 : decode cX9_enter 33 = .ok (.ireturn, 1) := by decide +kernel
theorem dX9_enter_34 : decode cX9_enter 34 = .ok (.aload_n 0, 1) := by decide +kernel
theorem dX9_enter_35 : decode cX9_enter 35 = .ok (.invokevirtual 57, 3) := by decide +kernel
theorem dX9_enter_38 : decode cX9_enter 38 = .ok (.aload_n 0, 1) := by decide +kernel
theorem dX9_enter_39 : decode cX9_enter 39 = .ok (.getfield 7, 3) := by decide +kernel
theorem dX9_enter_42 : decode cX9_enter 42 = .ok (.bipush 63, 2) := by decide +kernel
theorem dX9_enter_44 : decode cX9_enter 44 = .ok (.iconst 2, 1) := by decide +kernel
theorem dX9_enter_45 : decode cX9_enter 45 = .ok (.aload_n 0, 1) := by decide +kernel
theorem dX9_enter_46 : decode cX9_enter 46 = .ok (.getfield 7, 3) := by decide +kernel
theorem dX9_enter_49 : decode cX9_enter 49 = .ok (.iconst 5, 1) := by decide +kernel
theorem dX9_enter_50 : decode cX9_enter 50 = .ok (.iaload, 1) := by decide +kernel
theorem dX9_enter_51 : decode cX9_enter 51 = .ok (.imul, 1) := by decide +kernel
theorem dX9_enter_52 : decode cX9_enter 52 = .ok (.iadd, 1) := by decide +kernel
theorem dX9_enter_53 : decode cX9_enter 53 = .ok (.iload_n 1, 1) := by decide +kernel
theorem dX9_enter_54 : decode cX9_enter 54 = .ok (.iastore, 1) := by decide +kernel
theorem dX9_enter_55 : decode cX9_enter 55 = .ok (.aload_n 0, 1) := by decide +kernel
theorem dX9_enter_56 : decode cX9_enter 56 = .ok (.getfield 7, 3) := by decide +kernel
theorem dX9_enter_59 : decode cX9_enter 59 = .ok (.bipush 63, 2) := by decide +kernel
theorem dX9_enter_61 : decode cX9_enter 61 = .ok (.iconst 2, 1) := by decide +kernel
theorem dX9_enter_62 : decode cX9_enter 62 = .ok (.aload_n 0, 1) := by decide +kernel
theorem dX9_enter_63 : decode cX9_enter 63 = .ok (.getfield 7, 3) := by decide +kernel
theorem dX9_enter_66 : decode cX9_enter 66 = .ok (.iconst 5, 1) := by decide +kernel
theorem dX9_enter_67 : decode cX9_enter 67 = .ok (.iaload, 1) := by decide +kernel
theorem dX9_enter_68 : decode cX9_enter 68 = .ok (.imul, 1) := by decide +kernel
theorem dX9_enter_69 : decode cX9_enter 69 = .ok (.iadd, 1) := by decide +kernel
theorem dX9_enter_70 : decode cX9_enter 70 = .ok (.iconst 1, 1) := by decide +kernel
theorem dX9_enter_71 : decode cX9_enter 71 = .ok (.iadd, 1) := by decide +kernel
theorem dX9_enter_72 : decode cX9_enter 72 = .ok (.iload_n 2, 1) := by decide +kernel
theorem dX9_enter_73 : decode cX9_enter 73 = .ok (.iastore, 1) := by decide +kernel
theorem dX9_enter_74 : decode cX9_enter 74 = .ok (.aload_n 0, 1) := by decide +kernel
theorem dX9_enter_75 : decode cX9_enter 75 = .ok (.getfield 7, 3) := by decide +kernel
theorem dX9_enter_78 : decode cX9_enter 78 = .ok (.iconst 5, 1) := by decide +kernel
theorem dX9_enter_79 : decode cX9_enter 79 = .ok (.dup2, 1) := by decide +kernel
theorem dX9_enter_80 : decode cX9_enter 80 = .ok (.iaload, 1) := by decide +kernel
theorem dX9_enter_81 : decode cX9_enter 81 = .ok (.iconst 1, 1) := by decide +kernel
theorem dX9_enter_82 : decode cX9_enter 82 = .ok (.iadd, 1) := by decide +kernel
theorem dX9_enter_83 : decode cX9_enter 83 = .ok (.iastore, 1) := by decide +kernel
theorem dX9_enter_84 : decode cX9_enter 84 = .ok (.aload_n 0, 1) := by decide +kernel
theorem dX9_enter_85 : decode cX9_enter 85 = .ok (.getfield 7, 3) := by decide +kernel
theorem dX9_enter_88 : decode cX9_enter 88 = .ok (.iconst 5, 1) := by decide +kernel
theorem dX9_enter_89 : decode cX9_enter 89 = .ok (.iaload, 1) := by decide +kernel
theorem dX9_enter_90 : decode cX9_enter 90 = .ok (.ireturn, 1) := by decide +kernel
theorem dX9_isEntry_0 : decode cX9_isEntry 0 = .ok (.iload_n 1, 1) := by decide +kernel
theorem dX9_isEntry_1 : decode cX9_isEntry 1 = .ok (.iconst 0, 1) := by decide +kernel
theorem dX9_isEntry_2 : decode cX9_isEntry 2 = .ok (.aload_n 0, 1) := by decide +kernel
theorem dX9_isEntry_3 : decode cX9_isEntry 3 = .ok (.getfield 7, 3) := by decide +kernel
theorem dX9_isEntry_6 : decode cX9_isEntry 6 = .ok (.iconst 5, 1) := by decide +kernel
theorem dX9_isEntry_7 : decode cX9_isEntry 7 = .ok (.iaload, 1) := by decide +kernel
theorem dX9_isEntry_8 : decode cX9_isEntry 8 = .ok (.iconst 1, 1) := by decide +kernel
theorem dX9_isEntry_9 : decode cX9_isEntry 9 = .ok (.isub, 1) := by decide +kernel
theorem dX9_isEntry_10 : decode cX9_isEntry 10 = .ok (.invokestatic 26, 3) := by decide +kernel
theorem dX9_isEntry_13 : decode cX9_isEntry 13 = .ok (.ireturn, 1) := by decide +kernel
theorem dX9_strike_0 : decode cX9_strike 0 = .ok (.aload_n 0, 1) := by decide +kernel
theorem dX9_strike_1 : decode cX9_strike 1 = .ok (.iload_n 1, 1) := by decide +kernel
theorem dX9_strike_2 : decode cX9_strike 2 = .ok (.invokevirtual 113, 3) := by decide +kernel
theorem dX9_strike_5 : decode cX9_strike 5 = .ok (.ifCond .ne 5, 3) := by decide +kernel
theorem dX9_strike_8 : decode cX9_strike 8 = .ok (.iconst (-1), 1) := by decide +kernel
theorem dX9_strike_9 : decode cX9_strike 9 = .ok (.ireturn, 1) := by decide +kernel
theorem dX9_strike_10 : decode cX9_strike 10 = .ok (.aload_n 0, 1) := by decide +kernel
theorem dX9_strike_11 : decode cX9_strike 11 = .ok (.invokevirtual 57, 3) := by decide +kernel
theorem dX9_strike_14 : decode cX9_strike 14 = .ok (.aload_n 0, 1) := by decide +kernel
theorem dX9_strike_15 : decode cX9_strike 15 = .ok (.iload_n 1, 1) := by decide +kernel
theorem dX9_strike_16 : decode cX9_strike 16 = .ok (.invokevirtual 116, 3) := by decide +kernel
theorem dX9_strike_19 : decode cX9_strike 19 = .ok (.istore_n 2, 1) := by decide +kernel
theorem dX9_strike_20 : decode cX9_strike 20 = .ok (.aload_n 0, 1) := by decide +kernel
theorem dX9_strike_21 : decode cX9_strike 21 = .ok (.getfield 7, 3) := by decide +kernel
theorem dX9_strike_24 : decode cX9_strike 24 = .ok (.iconst 5, 1) := by decide +kernel
theorem dX9_strike_25 : decode cX9_strike 25 = .ok (.dup2, 1) := by decide +kernel
theorem dX9_strike_26 : decode cX9_strike 26 = .ok (.iaload, 1) := by decide +kernel
theorem dX9_strike_27 : decode cX9_strike 27 = .ok (.iconst 1, 1) := by decide +kernel
theorem dX9_strike_28 : decode cX9_strike 28 = .ok (.isub, 1) := by decide +kernel
theorem dX9_strike_29 : decode cX9_strike 29 = .ok (.iastore, 1) := by decide +kernel
theorem dX9_strike_30 : decode cX9_strike 30 = .ok (.bipush 63, 2) := by decide +kernel
theorem dX9_strike_32 : decode cX9_strike 32 = .ok (.iconst 2, 1) := by decide +kernel
theorem dX9_strike_33 : decode cX9_strike 33 = .ok (.iload_n 1, 1) := by decide +kernel
theorem dX9_strike_34 : decode cX9_strike 34 = .ok (.imul, 1) := by decide +kernel
theorem dX9_strike_35 : decode cX9_strike 35 = .ok (.iadd, 1) := by decide +kernel
theorem dX9_strike_36 : decode cX9_strike 36 = .ok (.istore_n 3, 1) := by decide +kernel
theorem dX9_strike_37 : decode cX9_strike 37 = .ok (.iload_n 3, 1) := by decide +kernel
theorem dX9_strike_38 : decode cX9_strike 38 = .ok (.bipush 63, 2) := by decide +kernel
theorem dX9_strike_40 : decode cX9_strike 40 = .ok (.iconst 2, 1) := by decide +kernel
theorem dX9_strike_41 : decode cX9_strike 41 = .ok (.aload_n 0, 1) := by decide +kernel
theorem dX9_strike_42 : decode cX9_strike 42 = .ok (.getfield 7, 3) := by decide +kernel
theorem dX9_strike_45 : decode cX9_strike 45 = .ok (.iconst 5, 1) := by decide +kernel
theorem dX9_strike_46 : decode cX9_strike 46 = .ok (.iaload, 1) := by decide +kernel
theorem dX9_strike_47 : decode cX9_strike 47 = .ok (.imul, 1) := by decide +kernel
theorem dX9_strike_48 : decode cX9_strike 48 = .ok (.iadd, 1) := by decide +kernel
theorem dX9_strike_49 : decode cX9_strike 49 = .ok (.if_icmp .ge 23, 3) := by decide +kernel
theorem dX9_strike_52 : decode cX9_strike 52 = .ok (.aload_n 0, 1) := by decide +kernel
theorem dX9_strike_53 : decode cX9_strike 53 = .ok (.getfield 7, 3) := by decide +kernel
theorem dX9_strike_56 : decode cX9_strike 56 = .ok (.iload_n 3, 1) := by decide +kernel
theorem dX9_strike_57 : decode cX9_strike 57 = .ok (.aload_n 0, 1) := by decide +kernel
theorem dX9_strike_58 : decode cX9_strike 58 = .ok (.getfield 7, 3) := by decide +kernel
theorem dX9_strike_61 : decode cX9_strike 61 = .ok (.iload_n 3, 1) := by decide +kernel
theorem dX9_strike_62 : decode cX9_strike 62 = .ok (.iconst 2, 1) := by decide +kernel
theorem dX9_strike_63 : decode cX9_strike 63 = .ok (.iadd, 1) := by decide +kernel
theorem dX9_strike_64 : decode cX9_strike 64 = .ok (.iaload, 1) := by decide +kernel
theorem dX9_strike_65 : decode cX9_strike 65 = .ok (.iastore, 1) := by decide +kernel
theorem dX9_strike_66 : decode cX9_strike 66 = .ok (.iinc 3 1, 3) := by decide +kernel
theorem dX9_strike_69 : decode cX9_strike 69 = .ok (.goto (-32), 3) := by decide +kernel
theorem dX9_strike_72 : decode cX9_strike 72 = .ok (.iload_n 2, 1) := by decide +kernel
theorem dX9_strike_73 : decode cX9_strike 73 = .ok (.ireturn, 1) := by decide +kernel
theorem dX9_entry_0 : decode cX9_entry 0 = .ok (.aload_n 0, 1) := by decide +kernel
theorem dX9_entry_1 : decode cX9_entry 1 = .ok (.iload_n 1, 1) := by decide +kernel
theorem dX9_entry_2 : decode cX9_entry 2 = .ok (.invokevirtual 113, 3) := by decide +kernel
theorem dX9_entry_5 : decode cX9_entry 5 = .ok (.ifCond .ne 5, 3) := by decide +kernel
theorem dX9_entry_8 : decode cX9_entry 8 = .ok (.iconst (-1), 1) := by decide +kernel
theorem dX9_entry_9 : decode cX9_entry 9 = .ok (.ireturn, 1) := by decide +kernel
theorem dX9_entry_10 : decode cX9_entry 10 = .ok (.iload_n 2, 1) := by decide +kernel
theorem dX9_entry_11 : decode cX9_entry 11 = .ok (.ifCond .ne 11, 3) := by decide +kernel
theorem dX9_entry_14 : decode cX9_entry 14 = .ok (.aload_n 0, 1) := by decide +kernel
theorem dX9_entry_15 : decode cX9_entry 15 = .ok (.iload_n 1, 1) := by decide +kernel
theorem dX9_entry_16 : decode cX9_entry 16 = .ok (.invokevirtual 119, 3) := by decide +kernel
theorem dX9_entry_19 : decode cX9_entry 19 = .ok (.goto 18, 3) := by decide +kernel
theorem dX9_entry_22 : decode cX9_entry 22 = .ok (.iload_n 2, 1) := by decide +kernel
theorem dX9_entry_23 : decode cX9_entry 23 = .ok (.iconst 1, 1) := by decide +kernel
theorem dX9_entry_24 : decode cX9_entry 24 = .ok (.if_icmp .ne 11, 3) := by decide +kernel
theorem dX9_entry_27 : decode cX9_entry 27 = .ok (.aload_n 0, 1) := by decide +kernel
theorem dX9_entry_28 : decode cX9_entry 28 = .ok (.iload_n 1, 1) := by decide +kernel
theorem dX9_entry_29 : decode cX9_entry 29 = .ok (.invokevirtual 116, 3) := by decide +kernel
theorem dX9_entry_32 : decode cX9_entry 32 = .ok (.goto 5, 3) := by decide +kernel
theorem dX9_entry_35 : decode cX9_entry 35 = .ok (.bipush (-2), 2) := by decide +kernel
theorem dX9_entry_37 : decode cX9_entry 37 = .ok (.ireturn, 1) := by decide +kernel
theorem dX9_taken_0 : decode cX9_taken 0 = .ok (.aload_n 0, 1) := by decide +kernel
theorem dX9_taken_1 : decode cX9_taken 1 = .ok (.iload_n 2, 1) := by decide +kernel
theorem dX9_taken_2 : decode cX9_taken 2 = .ok (.invokevirtual 107, 3) := by decide +kernel
theorem dX9_taken_5 : decode cX9_taken 5 = .ok (.ifCond .eq 6, 3) := by decide +kernel
theorem dX9_taken_8 : decode cX9_taken 8 = .ok (.bipush (-6), 2) := by decide +kernel
theorem dX9_taken_10 : decode cX9_taken 10 = .ok (.ireturn, 1) := by decide +kernel
theorem dX9_taken_11 : decode cX9_taken 11 = .ok (.iload_n 1, 1) := by decide +kernel
theorem dX9_taken_12 : decode cX9_taken 12 = .ok (.aload_n 0, 1) := by decide +kernel
theorem dX9_taken_13 : decode cX9_taken 13 = .ok (.getfield 7, 3) := by decide +kernel
theorem dX9_taken_16 : decode cX9_taken 16 = .ok (.iconst 2, 1) := by decide +kernel
theorem dX9_taken_17 : decode cX9_taken 17 = .ok (.iaload, 1) := by decide +kernel
theorem dX9_taken_18 : decode cX9_taken 18 = .ok (.if_icmp .ne 7, 3) := by decide +kernel
theorem dX9_taken_21 : decode cX9_taken 21 = .ok (.iconst 1, 1) := by decide +kernel
theorem dX9_taken_22 : decode cX9_taken 22 = .ok (.goto 4, 3) := by decide +kernel
theorem dX9_taken_25 : decode cX9_taken 25 = .ok (.iconst 0, 1) := by decide +kernel
theorem dX9_taken_26 : decode cX9_taken 26 = .ok (.istore_n 3, 1) := by decide +kernel
theorem dX9_taken_27 : decode cX9_taken 27 = .ok (.iload_n 3, 1) := by decide +kernel
theorem dX9_taken_28 : decode cX9_taken 28 = .ok (.ifCond .eq 22, 3) := by decide +kernel
theorem dX9_taken_31 : decode cX9_taken 31 = .ok (.aload_n 0, 1) := by decide +kernel
theorem dX9_taken_32 : decode cX9_taken 32 = .ok (.aload_n 0, 1) := by decide +kernel
theorem dX9_taken_33 : decode cX9_taken 33 = .ok (.iload_n 2, 1) := by decide +kernel
theorem dX9_taken_34 : decode cX9_taken 34 = .ok (.iconst 0, 1) := by decide +kernel
theorem dX9_taken_35 : decode cX9_taken 35 = .ok (.invokevirtual 49, 3) := by decide +kernel
theorem dX9_taken_38 : decode cX9_taken 38 = .ok (.aload_n 0, 1) := by decide +kernel
theorem dX9_taken_39 : decode cX9_taken 39 = .ok (.iload_n 2, 1) := by decide +kernel
theorem dX9_taken_40 : decode cX9_taken 40 = .ok (.iconst 1, 1) := by decide +kernel
theorem dX9_taken_41 : decode cX9_taken 41 = .ok (.invokevirtual 49, 3) := by decide +kernel
theorem dX9_taken_44 : decode cX9_taken 44 = .ok (.invokevirtual 72, 3) := by decide +kernel
theorem dX9_taken_47 : decode cX9_taken 47 = .ok (.goto 19, 3) := by decide +kernel
theorem dX9_taken_50 : decode cX9_taken 50 = .ok (.aload_n 0, 1) := by decide +kernel
theorem dX9_taken_51 : decode cX9_taken 51 = .ok (.aload_n 0, 1) := by decide +kernel
theorem dX9_taken_52 : decode cX9_taken 52 = .ok (.iload_n 2, 1) := by decide +kernel
theorem dX9_taken_53 : decode cX9_taken 53 = .ok (.iconst 1, 1) := by decide +kernel
theorem dX9_taken_54 : decode cX9_taken 54 = .ok (.invokevirtual 49, 3) := by decide +kernel
theorem dX9_taken_57 : decode cX9_taken 57 = .ok (.aload_n 0, 1) := by decide +kernel
theorem dX9_taken_58 : decode cX9_taken 58 = .ok (.iload_n 2, 1) := by decide +kernel
theorem dX9_taken_59 : decode cX9_taken 59 = .ok (.iconst 0, 1) := by decide +kernel
theorem dX9_taken_60 : decode cX9_taken 60 = .ok (.invokevirtual 49, 3) := by decide +kernel
theorem dX9_taken_63 : decode cX9_taken 63 = .ok (.invokevirtual 72, 3) := by decide +kernel
theorem dX9_taken_66 : decode cX9_taken 66 = .ok (.ireturn, 1) := by decide +kernel
theorem dX9_seen_0 : decode cX9_seen 0 = .ok (.iload_n 1, 1) := by decide +kernel
theorem dX9_seen_1 : decode cX9_seen 1 = .ok (.invokestatic 69, 3) := by decide +kernel
theorem dX9_seen_4 : decode cX9_seen 4 = .ok (.ifCond .ne 6, 3) := by decide +kernel
theorem dX9_seen_7 : decode cX9_seen 7 = .ok (.bipush (-2), 2) := by decide +kernel
theorem dX9_seen_9 : decode cX9_seen 9 = .ok (.ireturn, 1) := by decide +kernel
theorem dX9_seen_10 : decode cX9_seen 10 = .ok (.aload_n 0, 1) := by decide +kernel
theorem dX9_seen_11 : decode cX9_seen 11 = .ok (.iload_n 2, 1) := by decide +kernel
theorem dX9_seen_12 : decode cX9_seen 12 = .ok (.iload_n 3, 1) := by decide +kernel
theorem dX9_seen_13 : decode cX9_seen 13 = .ok (.invokevirtual 100, 3) := by decide +kernel
theorem dX9_seen_16 : decode cX9_seen 16 = .ok (.ifCond .eq 17, 3) := by decide +kernel
theorem dX9_seen_19 : decode cX9_seen 19 = .ok (.aload_n 0, 1) := by decide +kernel
theorem dX9_seen_20 : decode cX9_seen 20 = .ok (.iload_n 1, 1) := by decide +kernel
theorem dX9_seen_21 : decode cX9_seen 21 = .ok (.aload_n 0, 1) := by decide +kernel
theorem dX9_seen_22 : decode cX9_seen 22 = .ok (.iload_n 2, 1) := by decide +kernel
theorem dX9_seen_23 : decode cX9_seen 23 = .ok (.iload_n 3, 1) := by decide +kernel
theorem dX9_seen_24 : decode cX9_seen 24 = .ok (.invokevirtual 104, 3) := by decide +kernel
theorem dX9_seen_27 : decode cX9_seen 27 = .ok (.invokevirtual 122, 3) := by decide +kernel
theorem dX9_seen_30 : decode cX9_seen 30 = .ok (.goto 4, 3) := by decide +kernel
theorem dX9_seen_33 : decode cX9_seen 33 = .ok (.iconst (-1), 1) := by decide +kernel
theorem dX9_seen_34 : decode cX9_seen 34 = .ok (.ireturn, 1) := by decide +kernel
theorem dX9_read_0 : decode cX9_read 0 = .ok (.iconst 1, 1) := by decide +kernel
theorem dX9_read_1 : decode cX9_read 1 = .ok (.istore_n 3, 1) := by decide +kernel
theorem dX9_read_2 : decode cX9_read 2 = .ok (.iconst 1, 1) := by decide +kernel
theorem dX9_read_3 : decode cX9_read 3 = .ok (.istore 4, 2) := by decide +kernel
theorem dX9_read_5 : decode cX9_read 5 = .ok (.iload 4, 2) := by decide +kernel
theorem dX9_read_7 : decode cX9_read 7 = .ok (.aload_n 0, 1) := by decide +kernel
theorem dX9_read_8 : decode cX9_read 8 = .ok (.iload_n 2, 1) := by decide +kernel
theorem dX9_read_9 : decode cX9_read 9 = .ok (.invokevirtual 37, 3) := by decide +kernel
theorem dX9_read_12 : decode cX9_read 12 = .ok (.if_icmp .gt 41, 3) := by decide +kernel
theorem dX9_read_15 : decode cX9_read 15 = .ok (.aload_n 0, 1) := by decide +kernel
theorem dX9_read_16 : decode cX9_read 16 = .ok (.iload_n 1, 1) := by decide +kernel
theorem dX9_read_17 : decode cX9_read 17 = .ok (.aload_n 0, 1) := by decide +kernel
theorem dX9_read_18 : decode cX9_read 18 = .ok (.iload_n 2, 1) := by decide +kernel
theorem dX9_read_19 : decode cX9_read 19 = .ok (.iload 4, 2) := by decide +kernel
theorem dX9_read_21 : decode cX9_read 21 = .ok (.invokevirtual 104, 3) := by decide +kernel
theorem dX9_read_24 : decode cX9_read 24 = .ok (.invokevirtual 122, 3) := by decide +kernel
theorem dX9_read_27 : decode cX9_read 27 = .ok (.istore 5, 2) := by decide +kernel
theorem dX9_read_29 : decode cX9_read 29 = .ok (.iload 5, 2) := by decide +kernel
theorem dX9_read_31 : decode cX9_read 31 = .ok (.bipush (-6), 2) := by decide +kernel
theorem dX9_read_33 : decode cX9_read 33 = .ok (.if_icmp .ne 6, 3) := by decide +kernel
theorem dX9_read_36 : decode cX9_read 36 = .ok (.bipush (-6), 2) := by decide +kernel
theorem dX9_read_38 : decode cX9_read 38 = .ok (.ireturn, 1) := by decide +kernel
theorem dX9_read_39 : decode cX9_read 39 = .ok (.bipush 10, 2) := by decide +kernel
theorem dX9_read_41 : decode cX9_read 41 = .ok (.iload_n 3, 1) := by decide +kernel
theorem dX9_read_42 : decode cX9_read 42 = .ok (.imul, 1) := by decide +kernel
theorem dX9_read_43 : decode cX9_read 43 = .ok (.iload 5, 2) := by decide +kernel
theorem dX9_read_45 : decode cX9_read 45 = .ok (.iadd, 1) := by decide +kernel
theorem dX9_read_46 : decode cX9_read 46 = .ok (.istore_n 3, 1) := by decide +kernel
theorem dX9_read_47 : decode cX9_read 47 = .ok (.iinc 4 1, 3) := by decide +kernel
theorem dX9_read_50 : decode cX9_read 50 = .ok (.goto (-45), 3) := by decide +kernel
theorem dX9_read_53 : decode cX9_read 53 = .ok (.iconst 0, 1) := by decide +kernel
theorem dX9_read_54 : decode cX9_read 54 = .ok (.istore 4, 2) := by decide +kernel
theorem dX9_read_56 : decode cX9_read 56 = .ok (.iload 4, 2) := by decide +kernel
theorem dX9_read_58 : decode cX9_read 58 = .ok (.aload_n 0, 1) := by decide +kernel
theorem dX9_read_59 : decode cX9_read 59 = .ok (.getfield 7, 3) := by decide +kernel
theorem dX9_read_62 : decode cX9_read 62 = .ok (.iconst 5, 1) := by decide +kernel
theorem dX9_read_63 : decode cX9_read 63 = .ok (.iaload, 1) := by decide +kernel
theorem dX9_read_64 : decode cX9_read 64 = .ok (.if_icmp .ge 26, 3) := by decide +kernel
theorem dX9_read_67 : decode cX9_read 67 = .ok (.aload_n 0, 1) := by decide +kernel
theorem dX9_read_68 : decode cX9_read 68 = .ok (.iload 4, 2) := by decide +kernel
theorem dX9_read_70 : decode cX9_read 70 = .ok (.invokevirtual 119, 3) := by decide +kernel
theorem dX9_read_73 : decode cX9_read 73 = .ok (.iload_n 3, 1) := by decide +kernel
theorem dX9_read_74 : decode cX9_read 74 = .ok (.if_icmp .ne 10, 3) := by decide +kernel
theorem dX9_read_77 : decode cX9_read 77 = .ok (.aload_n 0, 1) := by decide +kernel
theorem dX9_read_78 : decode cX9_read 78 = .ok (.iload 4, 2) := by decide +kernel
theorem dX9_read_80 : decode cX9_read 80 = .ok (.invokevirtual 116, 3) := by decide +kernel
theorem dX9_read_83 : decode cX9_read 83 = .ok (.ireturn, 1) := by decide +kernel
theorem dX9_read_84 : decode cX9_read 84 = .ok (.iinc 4 1, 3) := by decide +kernel
theorem dX9_read_87 : decode cX9_read 87 = .ok (.goto (-31), 3) := by decide +kernel
theorem dX9_read_90 : decode cX9_read 90 = .ok (.bipush (-6), 2) := by decide +kernel
theorem dX9_read_92 : decode cX9_read 92 = .ok (.ireturn, 1) := by decide +kernel
theorem dX9_wordAt_0 : decode cX9_wordAt 0 = .ok (.iload_n 2, 1) := by decide +kernel
theorem dX9_wordAt_1 : decode cX9_wordAt 1 = .ok (.istore_n 3, 1) := by decide +kernel
theorem dX9_wordAt_2 : decode cX9_wordAt 2 = .ok (.iconst 0, 1) := by decide +kernel
theorem dX9_wordAt_3 : decode cX9_wordAt 3 = .ok (.istore 4, 2) := by decide +kernel
theorem dX9_wordAt_5 : decode cX9_wordAt 5 = .ok (.iload 4, 2) := by decide +kernel
theorem dX9_wordAt_7 : decode cX9_wordAt 7 = .ok (.iconst 5, 1) := by decide +kernel
theorem dX9_wordAt_8 : decode cX9_wordAt 8 = .ok (.if_icmp .ge 48, 3) := by decide +kernel
theorem dX9_wordAt_11 : decode cX9_wordAt 11 = .ok (.iload_n 1, 1) := by decide +kernel
theorem dX9_wordAt_12 : decode cX9_wordAt 12 = .ok (.ifCond .ne 8, 3) := by decide +kernel
theorem dX9_wordAt_15 : decode cX9_wordAt 15 = .ok (.iload 4, 2) := by decide +kernel
theorem dX9_wordAt_17 : decode cX9_wordAt 17 = .ok (.goto 7, 3) := by decide +kernel
theorem dX9_wordAt_20 : decode cX9_wordAt 20 = .ok (.iconst 4, 1) := by decide +kernel
theorem dX9_wordAt_21 : decode cX9_wordAt 21 = .ok (.iload 4, 2) := by decide +kernel
theorem dX9_wordAt_23 : decode cX9_wordAt 23 = .ok (.isub, 1) := by decide +kernel
theorem dX9_wordAt_24 : decode cX9_wordAt 24 = .ok (.istore 5, 2) := by decide +kernel
theorem dX9_wordAt_26 : decode cX9_wordAt 26 = .ok (.aload_n 0, 1) := by decide +kernel
theorem dX9_wordAt_27 : decode cX9_wordAt 27 = .ok (.iload 5, 2) := by decide +kernel
theorem dX9_wordAt_29 : decode cX9_wordAt 29 = .ok (.invokevirtual 37, 3) := by decide +kernel
theorem dX9_wordAt_32 : decode cX9_wordAt 32 = .ok (.ifCond .le 18, 3) := by decide +kernel
theorem dX9_wordAt_35 : decode cX9_wordAt 35 = .ok (.iload_n 3, 1) := by decide +kernel
theorem dX9_wordAt_36 : decode cX9_wordAt 36 = .ok (.ifCond .ne 11, 3) := by decide +kernel
theorem dX9_wordAt_39 : decode cX9_wordAt 39 = .ok (.aload_n 0, 1) := by decide +kernel
theorem dX9_wordAt_40 : decode cX9_wordAt 40 = .ok (.iload_n 1, 1) := by decide +kernel
theorem dX9_wordAt_41 : decode cX9_wordAt 41 = .ok (.iload 5, 2) := by decide +kernel
theorem dX9_wordAt_43 : decode cX9_wordAt 43 = .ok (.invokevirtual 125, 3) := by decide +kernel
theorem dX9_wordAt_46 : decode cX9_wordAt 46 = .ok (.ireturn, 1) := by decide +kernel
theorem dX9_wordAt_47 : decode cX9_wordAt 47 = .ok (.iinc 3 (-1), 3) := by decide +kernel
theorem dX9_wordAt_50 : decode cX9_wordAt 50 = .ok (.iinc 4 1, 3) := by decide +kernel
theorem dX9_wordAt_53 : decode cX9_wordAt 53 = .ok (.goto (-48), 3) := by decide +kernel
theorem dX9_wordAt_56 : decode cX9_wordAt 56 = .ok (.bipush (-6), 2) := by decide +kernel
theorem dX9_wordAt_58 : decode cX9_wordAt 58 = .ok (.ireturn, 1) := by decide +kernel
theorem dX9_word_0 : decode cX9_word 0 = .ok (.iload_n 1, 1) := by decide +kernel
theorem dX9_word_1 : decode cX9_word 1 = .ok (.invokestatic 69, 3) := by decide +kernel
theorem dX9_word_4 : decode cX9_word 4 = .ok (.ifCond .ne 6, 3) := by decide +kernel
theorem dX9_word_7 : decode cX9_word 7 = .ok (.bipush (-2), 2) := by decide +kernel
theorem dX9_word_9 : decode cX9_word 9 = .ok (.ireturn, 1) := by decide +kernel
theorem dX9_word_10 : decode cX9_word 10 = .ok (.iload_n 2, 1) := by decide +kernel
theorem dX9_word_11 : decode cX9_word 11 = .ok (.iconst 0, 1) := by decide +kernel
theorem dX9_word_12 : decode cX9_word 12 = .ok (.aload_n 0, 1) := by decide +kernel
theorem dX9_word_13 : decode cX9_word 13 = .ok (.invokevirtual 88, 3) := by decide +kernel
theorem dX9_word_16 : decode cX9_word 16 = .ok (.iconst 1, 1) := by decide +kernel
theorem dX9_word_17 : decode cX9_word 17 = .ok (.isub, 1) := by decide +kernel
theorem dX9_word_18 : decode cX9_word 18 = .ok (.invokestatic 26, 3) := by decide +kernel
theorem dX9_word_21 : decode cX9_word 21 = .ok (.ifCond .eq 12, 3) := by decide +kernel
theorem dX9_word_24 : decode cX9_word 24 = .ok (.aload_n 0, 1) := by decide +kernel
theorem dX9_word_25 : decode cX9_word 25 = .ok (.iload_n 1, 1) := by decide +kernel
theorem dX9_word_26 : decode cX9_word 26 = .ok (.iload_n 2, 1) := by decide +kernel
theorem dX9_word_27 : decode cX9_word 27 = .ok (.invokevirtual 91, 3) := by decide +kernel
theorem dX9_word_30 : decode cX9_word 30 = .ok (.goto 4, 3) := by decide +kernel
theorem dX9_word_33 : decode cX9_word 33 = .ok (.iconst (-1), 1) := by decide +kernel
theorem dX9_word_34 : decode cX9_word 34 = .ok (.ireturn, 1) := by decide +kernel
theorem dX9_knownBy_0 : decode cX9_knownBy 0 = .ok (.iconst 0, 1) := by decide +kernel
theorem dX9_knownBy_1 : decode cX9_knownBy 1 = .ok (.istore_n 2, 1) := by decide +kernel
theorem dX9_knownBy_2 : decode cX9_knownBy 2 = .ok (.iconst 0, 1) := by decide +kernel
theorem dX9_knownBy_3 : decode cX9_knownBy 3 = .ok (.istore_n 3, 1) := by decide +kernel
theorem dX9_knownBy_4 : decode cX9_knownBy 4 = .ok (.iload_n 3, 1) := by decide +kernel
theorem dX9_knownBy_5 : decode cX9_knownBy 5 = .ok (.iconst 5, 1) := by decide +kernel
theorem dX9_knownBy_6 : decode cX9_knownBy 6 = .ok (.if_icmp .ge 36, 3) := by decide +kernel
theorem dX9_knownBy_9 : decode cX9_knownBy 9 = .ok (.iload_n 2, 1) := by decide +kernel
theorem dX9_knownBy_10 : decode cX9_knownBy 10 = .ok (.aload_n 0, 1) := by decide +kernel
theorem dX9_knownBy_11 : decode cX9_knownBy 11 = .ok (.iload_n 3, 1) := by decide +kernel
theorem dX9_knownBy_12 : decode cX9_knownBy 12 = .ok (.invokevirtual 37, 3) := by decide +kernel
theorem dX9_knownBy_15 : decode cX9_knownBy 15 = .ok (.ifCond .le 18, 3) := by decide +kernel
theorem dX9_knownBy_18 : decode cX9_knownBy 18 = .ok (.aload_n 0, 1) := by decide +kernel
theorem dX9_knownBy_19 : decode cX9_knownBy 19 = .ok (.iload_n 1, 1) := by decide +kernel
theorem dX9_knownBy_20 : decode cX9_knownBy 20 = .ok (.iload_n 3, 1) := by decide +kernel
theorem dX9_knownBy_21 : decode cX9_knownBy 21 = .ok (.invokevirtual 125, 3) := by decide +kernel
theorem dX9_knownBy_24 : decode cX9_knownBy 24 = .ok (.bipush (-6), 2) := by decide +kernel
theorem dX9_knownBy_26 : decode cX9_knownBy 26 = .ok (.if_icmp .eq 7, 3) := by decide +kernel
theorem dX9_knownBy_29 : decode cX9_knownBy 29 = .ok (.iconst 1, 1) := by decide +kernel
theorem dX9_knownBy_30 : decode cX9_knownBy 30 = .ok (.goto 4, 3) := by decide +kernel
theorem dX9_knownBy_33 : decode cX9_knownBy 33 = .ok (.iconst 0, 1) := by decide +kernel
theorem dX9_knownBy_34 : decode cX9_knownBy 34 = .ok (.iadd, 1) := by decide +kernel
theorem dX9_knownBy_35 : decode cX9_knownBy 35 = .ok (.istore_n 2, 1) := by decide +kernel
theorem dX9_knownBy_36 : decode cX9_knownBy 36 = .ok (.iinc 3 1, 3) := by decide +kernel
theorem dX9_knownBy_39 : decode cX9_knownBy 39 = .ok (.goto (-35), 3) := by decide +kernel
theorem dX9_knownBy_42 : decode cX9_knownBy 42 = .ok (.iload_n 2, 1) := by decide +kernel
theorem dX9_knownBy_43 : decode cX9_knownBy 43 = .ok (.ireturn, 1) := by decide +kernel
theorem dX9_known_0 : decode cX9_known 0 = .ok (.iload_n 1, 1) := by decide +kernel
theorem dX9_known_1 : decode cX9_known 1 = .ok (.invokestatic 69, 3) := by decide +kernel
theorem dX9_known_4 : decode cX9_known 4 = .ok (.ifCond .eq 11, 3) := by decide +kernel
theorem dX9_known_7 : decode cX9_known 7 = .ok (.aload_n 0, 1) := by decide +kernel
theorem dX9_known_8 : decode cX9_known 8 = .ok (.iload_n 1, 1) := by decide +kernel
theorem dX9_known_9 : decode cX9_known 9 = .ok (.invokevirtual 128, 3) := by decide +kernel
theorem dX9_known_12 : decode cX9_known 12 = .ok (.goto 5, 3) := by decide +kernel
theorem dX9_known_15 : decode cX9_known 15 = .ok (.bipush (-2), 2) := by decide +kernel
theorem dX9_known_17 : decode cX9_known 17 = .ok (.ireturn, 1) := by decide +kernel
theorem dX9_knowsAll_0 : decode cX9_knowsAll 0 = .ok (.aload_n 0, 1) := by decide +kernel
theorem dX9_knowsAll_1 : decode cX9_knowsAll 1 = .ok (.invokevirtual 88, 3) := by decide +kernel
theorem dX9_knowsAll_4 : decode cX9_knowsAll 4 = .ok (.ifCond .le 19, 3) := by decide +kernel
theorem dX9_knowsAll_7 : decode cX9_knowsAll 7 = .ok (.aload_n 0, 1) := by decide +kernel
theorem dX9_knowsAll_8 : decode cX9_knowsAll 8 = .ok (.iload_n 1, 1) := by decide +kernel
theorem dX9_knowsAll_9 : decode cX9_knowsAll 9 = .ok (.invokevirtual 128, 3) := by decide +kernel
theorem dX9_knowsAll_12 : decode cX9_knowsAll 12 = .ok (.aload_n 0, 1) := by decide +kernel
theorem dX9_knowsAll_13 : decode cX9_knowsAll 13 = .ok (.invokevirtual 88, 3) := by decide +kernel
theorem dX9_knowsAll_16 : decode cX9_knowsAll 16 = .ok (.if_icmp .ne 7, 3) := by decide +kernel
theorem dX9_knowsAll_19 : decode cX9_knowsAll 19 = .ok (.iconst 1, 1) := by decide +kernel
theorem dX9_knowsAll_20 : decode cX9_knowsAll 20 = .ok (.goto 4, 3) := by decide +kernel
theorem dX9_knowsAll_23 : decode cX9_knowsAll 23 = .ok (.iconst 0, 1) := by decide +kernel
theorem dX9_knowsAll_24 : decode cX9_knowsAll 24 = .ok (.ireturn, 1) := by decide +kernel
theorem dX9_isSame_0 : decode cX9_isSame 0 = .ok (.aload_n 0, 1) := by decide +kernel
theorem dX9_isSame_1 : decode cX9_isSame 1 = .ok (.iconst 0, 1) := by decide +kernel
theorem dX9_isSame_2 : decode cX9_isSame 2 = .ok (.invokevirtual 131, 3) := by decide +kernel
theorem dX9_isSame_5 : decode cX9_isSame 5 = .ok (.ifCond .eq 15, 3) := by decide +kernel
theorem dX9_isSame_8 : decode cX9_isSame 8 = .ok (.aload_n 0, 1) := by decide +kernel
theorem dX9_isSame_9 : decode cX9_isSame 9 = .ok (.iconst 1, 1) := by decide +kernel
theorem dX9_isSame_10 : decode cX9_isSame 10 = .ok (.invokevirtual 131, 3) := by decide +kernel
theorem dX9_isSame_13 : decode cX9_isSame 13 = .ok (.ifCond .eq 7, 3) := by decide +kernel
theorem dX9_isSame_16 : decode cX9_isSame 16 = .ok (.iconst 1, 1) := by decide +kernel
theorem dX9_isSame_17 : decode cX9_isSame 17 = .ok (.goto 4, 3) := by decide +kernel
theorem dX9_isSame_20 : decode cX9_isSame 20 = .ok (.iconst 0, 1) := by decide +kernel
theorem dX9_isSame_21 : decode cX9_isSame 21 = .ok (.istore_n 1, 1) := by decide +kernel
theorem dX9_isSame_22 : decode cX9_isSame 22 = .ok (.iconst 0, 1) := by decide +kernel
theorem dX9_isSame_23 : decode cX9_isSame 23 = .ok (.istore_n 2, 1) := by decide +kernel
theorem dX9_isSame_24 : decode cX9_isSame 24 = .ok (.iload_n 2, 1) := by decide +kernel
theorem dX9_isSame_25 : decode cX9_isSame 25 = .ok (.aload_n 0, 1) := by decide +kernel
theorem dX9_isSame_26 : decode cX9_isSame 26 = .ok (.invokevirtual 88, 3) := by decide +kernel
theorem dX9_isSame_29 : decode cX9_isSame 29 = .ok (.if_icmp .ge 34, 3) := by decide +kernel
theorem dX9_isSame_32 : decode cX9_isSame 32 = .ok (.iload_n 1, 1) := by decide +kernel
theorem dX9_isSame_33 : decode cX9_isSame 33 = .ok (.ifCond .eq 22, 3) := by decide +kernel
theorem dX9_isSame_36 : decode cX9_isSame 36 = .ok (.aload_n 0, 1) := by decide +kernel
theorem dX9_isSame_37 : decode cX9_isSame 37 = .ok (.iconst 0, 1) := by decide +kernel
theorem dX9_isSame_38 : decode cX9_isSame 38 = .ok (.iload_n 2, 1) := by decide +kernel
theorem dX9_isSame_39 : decode cX9_isSame 39 = .ok (.invokevirtual 91, 3) := by decide +kernel
theorem dX9_isSame_42 : decode cX9_isSame 42 = .ok (.aload_n 0, 1) := by decide +kernel
theorem dX9_isSame_43 : decode cX9_isSame 43 = .ok (.iconst 1, 1) := by decide +kernel
theorem dX9_isSame_44 : decode cX9_isSame 44 = .ok (.iload_n 2, 1) := by decide +kernel
theorem dX9_isSame_45 : decode cX9_isSame 45 = .ok (.invokevirtual 91, 3) := by decide +kernel
theorem dX9_isSame_48 : decode cX9_isSame 48 = .ok (.if_icmp .ne 7, 3) := by decide +kernel
theorem dX9_isSame_51 : decode cX9_isSame 51 = .ok (.iconst 1, 1) := by decide +kernel
theorem dX9_isSame_52 : decode cX9_isSame 52 = .ok (.goto 4, 3) := by decide +kernel
theorem dX9_isSame_55 : decode cX9_isSame 55 = .ok (.iconst 0, 1) := by decide +kernel
theorem dX9_isSame_56 : decode cX9_isSame 56 = .ok (.istore_n 1, 1) := by decide +kernel
theorem dX9_isSame_57 : decode cX9_isSame 57 = .ok (.iinc 2 1, 3) := by decide +kernel
theorem dX9_isSame_60 : decode cX9_isSame 60 = .ok (.goto (-36), 3) := by decide +kernel
theorem dX9_isSame_63 : decode cX9_isSame 63 = .ok (.iload_n 1, 1) := by decide +kernel
theorem dX9_isSame_64 : decode cX9_isSame 64 = .ok (.ifCond .eq 7, 3) := by decide +kernel
theorem dX9_isSame_67 : decode cX9_isSame 67 = .ok (.iconst 1, 1) := by decide +kernel
theorem dX9_isSame_68 : decode cX9_isSame 68 = .ok (.goto 4, 3) := by decide +kernel
theorem dX9_isSame_71 : decode cX9_isSame 71 = .ok (.iconst 0, 1) := by decide +kernel
theorem dX9_isSame_72 : decode cX9_isSame 72 = .ok (.ireturn, 1) := by decide +kernel
theorem dX9_sail_0 : decode cX9_sail 0 = .ok (.iload_n 1, 1) := by decide +kernel
theorem dX9_sail_1 : decode cX9_sail 1 = .ok (.invokestatic 69, 3) := by decide +kernel
theorem dX9_sail_4 : decode cX9_sail 4 = .ok (.ifCond .ne 6, 3) := by decide +kernel
theorem dX9_sail_7 : decode cX9_sail 7 = .ok (.bipush (-2), 2) := by decide +kernel
theorem dX9_sail_9 : decode cX9_sail 9 = .ok (.ireturn, 1) := by decide +kernel
theorem dX9_sail_10 : decode cX9_sail 10 = .ok (.aload_n 0, 1) := by decide +kernel
theorem dX9_sail_11 : decode cX9_sail 11 = .ok (.invokevirtual 57, 3) := by decide +kernel
theorem dX9_sail_14 : decode cX9_sail 14 = .ok (.aload_n 0, 1) := by decide +kernel
theorem dX9_sail_15 : decode cX9_sail 15 = .ok (.getfield 7, 3) := by decide +kernel
theorem dX9_sail_18 : decode cX9_sail 18 = .ok (.iconst 3, 1) := by decide +kernel
theorem dX9_sail_19 : decode cX9_sail 19 = .ok (.iaload, 1) := by decide +kernel
theorem dX9_sail_20 : decode cX9_sail 20 = .ok (.istore_n 2, 1) := by decide +kernel
theorem dX9_sail_21 : decode cX9_sail 21 = .ok (.aload_n 0, 1) := by decide +kernel
theorem dX9_sail_22 : decode cX9_sail 22 = .ok (.getfield 7, 3) := by decide +kernel
theorem dX9_sail_25 : decode cX9_sail 25 = .ok (.iconst 3, 1) := by decide +kernel
theorem dX9_sail_26 : decode cX9_sail 26 = .ok (.iload_n 1, 1) := by decide +kernel
theorem dX9_sail_27 : decode cX9_sail 27 = .ok (.iastore, 1) := by decide +kernel
theorem dX9_sail_28 : decode cX9_sail 28 = .ok (.iload_n 2, 1) := by decide +kernel
theorem dX9_sail_29 : decode cX9_sail 29 = .ok (.ireturn, 1) := by decide +kernel
theorem dX9_answer_0 : decode cX9_answer 0 = .ok (.aload_n 0, 1) := by decide +kernel
theorem dX9_answer_1 : decode cX9_answer 1 = .ok (.invokevirtual 88, 3) := by decide +kernel
theorem dX9_answer_4 : decode cX9_answer 4 = .ok (.ifCond .eq 36, 3) := by decide +kernel
theorem dX9_answer_7 : decode cX9_answer 7 = .ok (.aload_n 0, 1) := by decide +kernel
theorem dX9_answer_8 : decode cX9_answer 8 = .ok (.getfield 7, 3) := by decide +kernel
theorem dX9_answer_11 : decode cX9_answer 11 = .ok (.iconst 4, 1) := by decide +kernel
theorem dX9_answer_12 : decode cX9_answer 12 = .ok (.iaload, 1) := by decide +kernel
theorem dX9_answer_13 : decode cX9_answer 13 = .ok (.iconst 2, 1) := by decide +kernel
theorem dX9_answer_14 : decode cX9_answer 14 = .ok (.if_icmp .eq 26, 3) := by decide +kernel
theorem dX9_answer_17 : decode cX9_answer 17 = .ok (.aload_n 0, 1) := by decide +kernel
theorem dX9_answer_18 : decode cX9_answer 18 = .ok (.getfield 7, 3) := by decide +kernel
theorem dX9_answer_21 : decode cX9_answer 21 = .ok (.iconst 4, 1) := by decide +kernel
theorem dX9_answer_22 : decode cX9_answer 22 = .ok (.iaload, 1) := by decide +kernel
theorem dX9_answer_23 : decode cX9_answer 23 = .ok (.iconst 1, 1) := by decide +kernel
theorem dX9_answer_24 : decode cX9_answer 24 = .ok (.if_icmp .ne 19, 3) := by decide +kernel
theorem dX9_answer_27 : decode cX9_answer 27 = .ok (.aload_n 0, 1) := by decide +kernel
theorem dX9_answer_28 : decode cX9_answer 28 = .ok (.aload_n 0, 1) := by decide +kernel
theorem dX9_answer_29 : decode cX9_answer 29 = .ok (.getfield 7, 3) := by decide +kernel
theorem dX9_answer_32 : decode cX9_answer 32 = .ok (.iconst 3, 1) := by decide +kernel
theorem dX9_answer_33 : decode cX9_answer 33 = .ok (.iaload, 1) := by decide +kernel
theorem dX9_answer_34 : decode cX9_answer 34 = .ok (.invokevirtual 131, 3) := by decide +kernel
theorem dX9_answer_37 : decode cX9_answer 37 = .ok (.ifCond .ne 6, 3) := by decide +kernel
theorem dX9_answer_40 : decode cX9_answer 40 = .ok (.bipush (-3), 2) := by decide +kernel
theorem dX9_answer_42 : decode cX9_answer 42 = .ok (.ireturn, 1) := by decide +kernel
theorem dX9_answer_43 : decode cX9_answer 43 = .ok (.aload_n 0, 1) := by decide +kernel
theorem dX9_answer_44 : decode cX9_answer 44 = .ok (.invokevirtual 34, 3) := by decide +kernel
theorem dX9_answer_47 : decode cX9_answer 47 = .ok (.aload_n 0, 1) := by decide +kernel
theorem dX9_answer_48 : decode cX9_answer 48 = .ok (.getfield 7, 3) := by decide +kernel
theorem dX9_answer_51 : decode cX9_answer 51 = .ok (.iconst 4, 1) := by decide +kernel
theorem dX9_answer_52 : decode cX9_answer 52 = .ok (.dup2, 1) := by decide +kernel
theorem dX9_answer_53 : decode cX9_answer 53 = .ok (.iaload, 1) := by decide +kernel
theorem dX9_answer_54 : decode cX9_answer 54 = .ok (.iconst 1, 1) := by decide +kernel
theorem dX9_answer_55 : decode cX9_answer 55 = .ok (.iadd, 1) := by decide +kernel
theorem dX9_answer_56 : decode cX9_answer 56 = .ok (.iastore, 1) := by decide +kernel
theorem dX9_answer_57 : decode cX9_answer 57 = .ok (.aload_n 0, 1) := by decide +kernel
theorem dX9_answer_58 : decode cX9_answer 58 = .ok (.getfield 7, 3) := by decide +kernel
theorem dX9_answer_61 : decode cX9_answer 61 = .ok (.iconst 4, 1) := by decide +kernel
theorem dX9_answer_62 : decode cX9_answer 62 = .ok (.iaload, 1) := by decide +kernel
theorem dX9_answer_63 : decode cX9_answer 63 = .ok (.ireturn, 1) := by decide +kernel
theorem dX9_logged_0 : decode cX9_logged 0 = .ok (.iload_n 1, 1) := by decide +kernel
theorem dX9_logged_1 : decode cX9_logged 1 = .ok (.iconst 0, 1) := by decide +kernel
theorem dX9_logged_2 : decode cX9_logged 2 = .ok (.aload_n 0, 1) := by decide +kernel
theorem dX9_logged_3 : decode cX9_logged 3 = .ok (.getfield 7, 3) := by decide +kernel
theorem dX9_logged_6 : decode cX9_logged 6 = .ok (.bipush 6, 2) := by decide +kernel
theorem dX9_logged_8 : decode cX9_logged 8 = .ok (.iaload, 1) := by decide +kernel
theorem dX9_logged_9 : decode cX9_logged 9 = .ok (.iconst 1, 1) := by decide +kernel
theorem dX9_logged_10 : decode cX9_logged 10 = .ok (.isub, 1) := by decide +kernel
theorem dX9_logged_11 : decode cX9_logged 11 = .ok (.invokestatic 26, 3) := by decide +kernel
theorem dX9_logged_14 : decode cX9_logged 14 = .ok (.ifCond .ne 5, 3) := by decide +kernel
theorem dX9_logged_17 : decode cX9_logged 17 = .ok (.iconst (-1), 1) := by decide +kernel
theorem dX9_logged_18 : decode cX9_logged 18 = .ok (.ireturn, 1) := by decide +kernel
theorem dX9_logged_19 : decode cX9_logged 19 = .ok (.iload_n 2, 1) := by decide +kernel
theorem dX9_logged_20 : decode cX9_logged 20 = .ok (.iconst 0, 1) := by decide +kernel
theorem dX9_logged_21 : decode cX9_logged 21 = .ok (.iconst 5, 1) := by decide +kernel
theorem dX9_logged_22 : decode cX9_logged 22 = .ok (.invokestatic 26, 3) := by decide +kernel
theorem dX9_logged_25 : decode cX9_logged 25 = .ok (.ifCond .ne 6, 3) := by decide +kernel
theorem dX9_logged_28 : decode cX9_logged 28 = .ok (.bipush (-2), 2) := by decide +kernel
theorem dX9_logged_30 : decode cX9_logged 30 = .ok (.ireturn, 1) := by decide +kernel
theorem dX9_logged_31 : decode cX9_logged 31 = .ok (.bipush 87, 2) := by decide +kernel
theorem dX9_logged_33 : decode cX9_logged 33 = .ok (.bipush 6, 2) := by decide +kernel
theorem dX9_logged_35 : decode cX9_logged 35 = .ok (.iload_n 1, 1) := by decide +kernel
theorem dX9_logged_36 : decode cX9_logged 36 = .ok (.imul, 1) := by decide +kernel
theorem dX9_logged_37 : decode cX9_logged 37 = .ok (.iadd, 1) := by decide +kernel
theorem dX9_logged_38 : decode cX9_logged 38 = .ok (.istore_n 3, 1) := by decide +kernel
theorem dX9_logged_39 : decode cX9_logged 39 = .ok (.iload_n 2, 1) := by decide +kernel
theorem dX9_logged_40 : decode cX9_logged 40 = .ok (.aload_n 0, 1) := by decide +kernel
theorem dX9_logged_41 : decode cX9_logged 41 = .ok (.getfield 7, 3) := by decide +kernel
theorem dX9_logged_44 : decode cX9_logged 44 = .ok (.iload_n 3, 1) := by decide +kernel
theorem dX9_logged_45 : decode cX9_logged 45 = .ok (.iaload, 1) := by decide +kernel
theorem dX9_logged_46 : decode cX9_logged 46 = .ok (.if_icmp .le 7, 3) := by decide +kernel
theorem dX9_logged_49 : decode cX9_logged 49 = .ok (.iconst (-1), 1) := by decide +kernel
theorem dX9_logged_50 : decode cX9_logged 50 = .ok (.goto 11, 3) := by decide +kernel
theorem dX9_logged_53 : decode cX9_logged 53 = .ok (.aload_n 0, 1) := by decide +kernel
theorem dX9_logged_54 : decode cX9_logged 54 = .ok (.getfield 7, 3) := by decide +kernel
theorem dX9_logged_57 : decode cX9_logged 57 = .ok (.iload_n 3, 1) := by decide +kernel
theorem dX9_logged_58 : decode cX9_logged 58 = .ok (.iload_n 2, 1) := by decide +kernel
theorem dX9_logged_59 : decode cX9_logged 59 = .ok (.iadd, 1) := by decide +kernel
theorem dX9_logged_60 : decode cX9_logged 60 = .ok (.iaload, 1) := by decide +kernel
theorem dX9_logged_61 : decode cX9_logged 61 = .ok (.ireturn, 1) := by decide +kernel
theorem dX9_total_0 : decode cX9_total 0 = .ok (.iload_n 1, 1) := by decide +kernel
theorem dX9_total_1 : decode cX9_total 1 = .ok (.tableswitch 123 0 9 #[55, 62, 69, 76, 81, 86, 93, 100, 107, 115], 55) := by decide +kernel
theorem dX9_total_56 : decode cX9_total 56 = .ok (.aload_n 0, 1) := by decide +kernel
theorem dX9_total_57 : decode cX9_total 57 = .ok (.getfield 7, 3) := by decide +kernel
theorem dX9_total_60 : decode cX9_total 60 = .ok (.iconst 1, 1) := by decide +kernel
theorem dX9_total_61 : decode cX9_total 61 = .ok (.iaload, 1) := by decide +kernel
theorem dX9_total_62 : decode cX9_total 62 = .ok (.ireturn, 1) := by decide +kernel
theorem dX9_total_63 : decode cX9_total 63 = .ok (.aload_n 0, 1) := by decide +kernel
theorem dX9_total_64 : decode cX9_total 64 = .ok (.getfield 7, 3) := by decide +kernel
theorem dX9_total_67 : decode cX9_total 67 = .ok (.iconst 2, 1) := by decide +kernel
theorem dX9_total_68 : decode cX9_total 68 = .ok (.iaload, 1) := by decide +kernel
theorem dX9_total_69 : decode cX9_total 69 = .ok (.ireturn, 1) := by decide +kernel
theorem dX9_total_70 : decode cX9_total 70 = .ok (.aload_n 0, 1) := by decide +kernel
theorem dX9_total_71 : decode cX9_total 71 = .ok (.getfield 7, 3) := by decide +kernel
theorem dX9_total_74 : decode cX9_total 74 = .ok (.iconst 0, 1) := by decide +kernel
theorem dX9_total_75 : decode cX9_total 75 = .ok (.iaload, 1) := by decide +kernel
theorem dX9_total_76 : decode cX9_total 76 = .ok (.ireturn, 1) := by decide +kernel
theorem dX9_total_77 : decode cX9_total 77 = .ok (.aload_n 0, 1) := by decide +kernel
theorem dX9_total_78 : decode cX9_total 78 = .ok (.invokevirtual 45, 3) := by decide +kernel
theorem dX9_total_81 : decode cX9_total 81 = .ok (.ireturn, 1) := by decide +kernel
theorem dX9_total_82 : decode cX9_total 82 = .ok (.aload_n 0, 1) := by decide +kernel
theorem dX9_total_83 : decode cX9_total 83 = .ok (.invokevirtual 88, 3) := by decide +kernel
theorem dX9_total_86 : decode cX9_total 86 = .ok (.ireturn, 1) := by decide +kernel
theorem dX9_total_87 : decode cX9_total 87 = .ok (.aload_n 0, 1) := by decide +kernel
theorem dX9_total_88 : decode cX9_total 88 = .ok (.getfield 7, 3) := by decide +kernel
theorem dX9_total_91 : decode cX9_total 91 = .ok (.iconst 5, 1) := by decide +kernel
theorem dX9_total_92 : decode cX9_total 92 = .ok (.iaload, 1) := by decide +kernel
theorem dX9_total_93 : decode cX9_total 93 = .ok (.ireturn, 1) := by decide +kernel
theorem dX9_total_94 : decode cX9_total 94 = .ok (.aload_n 0, 1) := by decide +kernel
theorem dX9_total_95 : decode cX9_total 95 = .ok (.getfield 7, 3) := by decide +kernel
theorem dX9_total_98 : decode cX9_total 98 = .ok (.iconst 3, 1) := by decide +kernel
theorem dX9_total_99 : decode cX9_total 99 = .ok (.iaload, 1) := by decide +kernel
theorem dX9_total_100 : decode cX9_total 100 = .ok (.ireturn, 1) := by decide +kernel
theorem dX9_total_101 : decode cX9_total 101 = .ok (.aload_n 0, 1) := by decide +kernel
theorem dX9_total_102 : decode cX9_total 102 = .ok (.getfield 7, 3) := by decide +kernel
theorem dX9_total_105 : decode cX9_total 105 = .ok (.iconst 4, 1) := by decide +kernel
theorem dX9_total_106 : decode cX9_total 106 = .ok (.iaload, 1) := by decide +kernel
theorem dX9_total_107 : decode cX9_total 107 = .ok (.ireturn, 1) := by decide +kernel
theorem dX9_total_108 : decode cX9_total 108 = .ok (.aload_n 0, 1) := by decide +kernel
theorem dX9_total_109 : decode cX9_total 109 = .ok (.getfield 7, 3) := by decide +kernel
theorem dX9_total_112 : decode cX9_total 112 = .ok (.bipush 6, 2) := by decide +kernel
theorem dX9_total_114 : decode cX9_total 114 = .ok (.iaload, 1) := by decide +kernel
theorem dX9_total_115 : decode cX9_total 115 = .ok (.ireturn, 1) := by decide +kernel
theorem dX9_total_116 : decode cX9_total 116 = .ok (.aload_n 0, 1) := by decide +kernel
theorem dX9_total_117 : decode cX9_total 117 = .ok (.getfield 7, 3) := by decide +kernel
theorem dX9_total_120 : decode cX9_total 120 = .ok (.bipush 7, 2) := by decide +kernel
theorem dX9_total_122 : decode cX9_total 122 = .ok (.iaload, 1) := by decide +kernel
theorem dX9_total_123 : decode cX9_total 123 = .ok (.ireturn, 1) := by decide +kernel
theorem dX9_total_124 : decode cX9_total 124 = .ok (.bipush (-2), 2) := by decide +kernel
theorem dX9_total_126 : decode cX9_total 126 = .ok (.ireturn, 1) := by decide +kernel
theorem dX9_leastWind_0 : decode cX9_leastWind 0 = .ok (.iload_n 1, 1) := by decide +kernel
theorem dX9_leastWind_1 : decode cX9_leastWind 1 = .ok (.invokestatic 69, 3) := by decide +kernel
theorem dX9_leastWind_4 : decode cX9_leastWind 4 = .ok (.ifCond .ne 6, 3) := by decide +kernel
theorem dX9_leastWind_7 : decode cX9_leastWind 7 = .ok (.bipush (-2), 2) := by decide +kernel
theorem dX9_leastWind_9 : decode cX9_leastWind 9 = .ok (.ireturn, 1) := by decide +kernel
theorem dX9_leastWind_10 : decode cX9_leastWind 10 = .ok (.aload_n 0, 1) := by decide +kernel
theorem dX9_leastWind_11 : decode cX9_leastWind 11 = .ok (.getfield 7, 3) := by decide +kernel
theorem dX9_leastWind_14 : decode cX9_leastWind 14 = .ok (.iconst 1, 1) := by decide +kernel
theorem dX9_leastWind_15 : decode cX9_leastWind 15 = .ok (.iaload, 1) := by decide +kernel
theorem dX9_leastWind_16 : decode cX9_leastWind 16 = .ok (.istore_n 2, 1) := by decide +kernel
theorem dX9_leastWind_17 : decode cX9_leastWind 17 = .ok (.bipush (-6), 2) := by decide +kernel
theorem dX9_leastWind_19 : decode cX9_leastWind 19 = .ok (.istore_n 3, 1) := by decide +kernel
theorem dX9_leastWind_20 : decode cX9_leastWind 20 = .ok (.bipush 9, 2) := by decide +kernel
theorem dX9_leastWind_22 : decode cX9_leastWind 22 = .ok (.istore 4, 2) := by decide +kernel
theorem dX9_leastWind_24 : decode cX9_leastWind 24 = .ok (.iload 4, 2) := by decide +kernel
theorem dX9_leastWind_26 : decode cX9_leastWind 26 = .ok (.ifCond .lt 32, 3) := by decide +kernel
theorem dX9_leastWind_29 : decode cX9_leastWind 29 = .ok (.aload_n 0, 1) := by decide +kernel
theorem dX9_leastWind_30 : decode cX9_leastWind 30 = .ok (.getfield 7, 3) := by decide +kernel
theorem dX9_leastWind_33 : decode cX9_leastWind 33 = .ok (.iconst 1, 1) := by decide +kernel
theorem dX9_leastWind_34 : decode cX9_leastWind 34 = .ok (.iload 4, 2) := by decide +kernel
theorem dX9_leastWind_36 : decode cX9_leastWind 36 = .ok (.iastore, 1) := by decide +kernel
theorem dX9_leastWind_37 : decode cX9_leastWind 37 = .ok (.aload_n 0, 1) := by decide +kernel
theorem dX9_leastWind_38 : decode cX9_leastWind 38 = .ok (.iload_n 1, 1) := by decide +kernel
theorem dX9_leastWind_39 : decode cX9_leastWind 39 = .ok (.invokevirtual 131, 3) := by decide +kernel
theorem dX9_leastWind_42 : decode cX9_leastWind 42 = .ok (.ifCond .eq 8, 3) := by decide +kernel
theorem dX9_leastWind_45 : decode cX9_leastWind 45 = .ok (.iload 4, 2) := by decide +kernel
theorem dX9_leastWind_47 : decode cX9_leastWind 47 = .ok (.goto 4, 3) := by decide +kernel
theorem dX9_leastWind_50 : decode cX9_leastWind 50 = .ok (.iload_n 3, 1) := by decide +kernel
theorem dX9_leastWind_51 : decode cX9_leastWind 51 = .ok (.istore_n 3, 1) := by decide +kernel
theorem dX9_leastWind_52 : decode cX9_leastWind 52 = .ok (.iinc 4 (-1), 3) := by decide +kernel
theorem dX9_leastWind_55 : decode cX9_leastWind 55 = .ok (.goto (-31), 3) := by decide +kernel
theorem dX9_leastWind_58 : decode cX9_leastWind 58 = .ok (.aload_n 0, 1) := by decide +kernel
theorem dX9_leastWind_59 : decode cX9_leastWind 59 = .ok (.getfield 7, 3) := by decide +kernel
theorem dX9_leastWind_62 : decode cX9_leastWind 62 = .ok (.iconst 1, 1) := by decide +kernel
theorem dX9_leastWind_63 : decode cX9_leastWind 63 = .ok (.iload_n 2, 1) := by decide +kernel
theorem dX9_leastWind_64 : decode cX9_leastWind 64 = .ok (.iastore, 1) := by decide +kernel
theorem dX9_leastWind_65 : decode cX9_leastWind 65 = .ok (.iload_n 3, 1) := by decide +kernel
theorem dX9_leastWind_66 : decode cX9_leastWind 66 = .ok (.ireturn, 1) := by decide +kernel
theorem dX9_ifTurned_0 : decode cX9_ifTurned 0 = .ok (.iload_n 1, 1) := by decide +kernel
theorem dX9_ifTurned_1 : decode cX9_ifTurned 1 = .ok (.invokestatic 69, 3) := by decide +kernel
theorem dX9_ifTurned_4 : decode cX9_ifTurned 4 = .ok (.ifCond .ne 6, 3) := by decide +kernel
theorem dX9_ifTurned_7 : decode cX9_ifTurned 7 = .ok (.bipush (-2), 2) := by decide +kernel
theorem dX9_ifTurned_9 : decode cX9_ifTurned 9 = .ok (.ireturn, 1) := by decide +kernel
theorem dX9_ifTurned_10 : decode cX9_ifTurned 10 = .ok (.aload_n 0, 1) := by decide +kernel
theorem dX9_ifTurned_11 : decode cX9_ifTurned 11 = .ok (.getfield 7, 3) := by decide +kernel
theorem dX9_ifTurned_14 : decode cX9_ifTurned 14 = .ok (.iconst 2, 1) := by decide +kernel
theorem dX9_ifTurned_15 : decode cX9_ifTurned 15 = .ok (.iconst 1, 1) := by decide +kernel
theorem dX9_ifTurned_16 : decode cX9_ifTurned 16 = .ok (.aload_n 0, 1) := by decide +kernel
theorem dX9_ifTurned_17 : decode cX9_ifTurned 17 = .ok (.getfield 7, 3) := by decide +kernel
theorem dX9_ifTurned_20 : decode cX9_ifTurned 20 = .ok (.iconst 2, 1) := by decide +kernel
theorem dX9_ifTurned_21 : decode cX9_ifTurned 21 = .ok (.iaload, 1) := by decide +kernel
theorem dX9_ifTurned_22 : decode cX9_ifTurned 22 = .ok (.isub, 1) := by decide +kernel
theorem dX9_ifTurned_23 : decode cX9_ifTurned 23 = .ok (.iastore, 1) := by decide +kernel
theorem dX9_ifTurned_24 : decode cX9_ifTurned 24 = .ok (.aload_n 0, 1) := by decide +kernel
theorem dX9_ifTurned_25 : decode cX9_ifTurned 25 = .ok (.iload_n 1, 1) := by decide +kernel
theorem dX9_ifTurned_26 : decode cX9_ifTurned 26 = .ok (.invokevirtual 128, 3) := by decide +kernel
theorem dX9_ifTurned_29 : decode cX9_ifTurned 29 = .ok (.istore_n 2, 1) := by decide +kernel
theorem dX9_ifTurned_30 : decode cX9_ifTurned 30 = .ok (.aload_n 0, 1) := by decide +kernel
theorem dX9_ifTurned_31 : decode cX9_ifTurned 31 = .ok (.getfield 7, 3) := by decide +kernel
theorem dX9_ifTurned_34 : decode cX9_ifTurned 34 = .ok (.iconst 2, 1) := by decide +kernel
theorem dX9_ifTurned_35 : decode cX9_ifTurned 35 = .ok (.iconst 1, 1) := by decide +kernel
theorem dX9_ifTurned_36 : decode cX9_ifTurned 36 = .ok (.aload_n 0, 1) := by decide +kernel
theorem dX9_ifTurned_37 : decode cX9_ifTurned 37 = .ok (.getfield 7, 3) := by decide +kernel
theorem dX9_ifTurned_40 : decode cX9_ifTurned 40 = .ok (.iconst 2, 1) := by decide +kernel
theorem dX9_ifTurned_41 : decode cX9_ifTurned 41 = .ok (.iaload, 1) := by decide +kernel
theorem dX9_ifTurned_42 : decode cX9_ifTurned 42 = .ok (.isub, 1) := by decide +kernel
theorem dX9_ifTurned_43 : decode cX9_ifTurned 43 = .ok (.iastore, 1) := by decide +kernel
theorem dX9_ifTurned_44 : decode cX9_ifTurned 44 = .ok (.iload_n 2, 1) := by decide +kernel
theorem dX9_ifTurned_45 : decode cX9_ifTurned 45 = .ok (.ireturn, 1) := by decide +kernel
theorem dX9_mendingExchange_0 : decode cX9_mendingExchange 0 = .ok (.aload_n 0, 1) := by decide +kernel
theorem dX9_mendingExchange_1 : decode cX9_mendingExchange 1 = .ok (.invokevirtual 134, 3) := by decide +kernel
theorem dX9_mendingExchange_4 : decode cX9_mendingExchange 4 = .ok (.iconst 1, 1) := by decide +kernel
theorem dX9_mendingExchange_5 : decode cX9_mendingExchange 5 = .ok (.if_icmp .ne 5, 3) := by decide +kernel
theorem dX9_mendingExchange_8 : decode cX9_mendingExchange 8 = .ok (.iconst 0, 1) := by decide +kernel
theorem dX9_mendingExchange_9 : decode cX9_mendingExchange 9 = .ok (.ireturn, 1) := by decide +kernel
theorem dX9_mendingExchange_10 : decode cX9_mendingExchange 10 = .ok (.bipush (-6), 2) := by decide +kernel
theorem dX9_mendingExchange_12 : decode cX9_mendingExchange 12 = .ok (.istore_n 1, 1) := by decide +kernel
theorem dX9_mendingExchange_13 : decode cX9_mendingExchange 13 = .ok (.iconst 4, 1) := by decide +kernel
theorem dX9_mendingExchange_14 : decode cX9_mendingExchange 14 = .ok (.istore_n 2, 1) := by decide +kernel
theorem dX9_mendingExchange_15 : decode cX9_mendingExchange 15 = .ok (.iload_n 2, 1) := by decide +kernel
theorem dX9_mendingExchange_16 : decode cX9_mendingExchange 16 = .ok (.ifCond .lt 53, 3) := by decide +kernel
theorem dX9_mendingExchange_19 : decode cX9_mendingExchange 19 = .ok (.iconst 4, 1) := by decide +kernel
theorem dX9_mendingExchange_20 : decode cX9_mendingExchange 20 = .ok (.istore_n 3, 1) := by decide +kernel
theorem dX9_mendingExchange_21 : decode cX9_mendingExchange 21 = .ok (.iload_n 3, 1) := by decide +kernel
theorem dX9_mendingExchange_22 : decode cX9_mendingExchange 22 = .ok (.iload_n 2, 1) := by decide +kernel
theorem dX9_mendingExchange_23 : decode cX9_mendingExchange 23 = .ok (.if_icmp .le 40, 3) := by decide +kernel
theorem dX9_mendingExchange_26 : decode cX9_mendingExchange 26 = .ok (.aload_n 0, 1) := by decide +kernel
theorem dX9_mendingExchange_27 : decode cX9_mendingExchange 27 = .ok (.iload_n 2, 1) := by decide +kernel
theorem dX9_mendingExchange_28 : decode cX9_mendingExchange 28 = .ok (.iload_n 3, 1) := by decide +kernel
theorem dX9_mendingExchange_29 : decode cX9_mendingExchange 29 = .ok (.invokevirtual 85, 3) := by decide +kernel
theorem dX9_mendingExchange_32 : decode cX9_mendingExchange 32 = .ok (.aload_n 0, 1) := by decide +kernel
theorem dX9_mendingExchange_33 : decode cX9_mendingExchange 33 = .ok (.invokevirtual 134, 3) := by decide +kernel
theorem dX9_mendingExchange_36 : decode cX9_mendingExchange 36 = .ok (.iconst 1, 1) := by decide +kernel
theorem dX9_mendingExchange_37 : decode cX9_mendingExchange 37 = .ok (.if_icmp .ne 12, 3) := by decide +kernel
theorem dX9_mendingExchange_40 : decode cX9_mendingExchange 40 = .ok (.bipush 10, 2) := by decide +kernel
theorem dX9_mendingExchange_42 : decode cX9_mendingExchange 42 = .ok (.iload_n 2, 1) := by decide +kernel
theorem dX9_mendingExchange_43 : decode cX9_mendingExchange 43 = .ok (.imul, 1) := by decide +kernel
theorem dX9_mendingExchange_44 : decode cX9_mendingExchange 44 = .ok (.iload_n 3, 1) := by decide +kernel
theorem dX9_mendingExchange_45 : decode cX9_mendingExchange 45 = .ok (.iadd, 1) := by decide +kernel
theorem dX9_mendingExchange_46 : decode cX9_mendingExchange 46 = .ok (.goto 4, 3) := by decide +kernel
theorem dX9_mendingExchange_49 : decode cX9_mendingExchange 49 = .ok (.iload_n 1, 1) := by decide +kernel
theorem dX9_mendingExchange_50 : decode cX9_mendingExchange 50 = .ok (.istore_n 1, 1) := by decide +kernel
theorem dX9_mendingExchange_51 : decode cX9_mendingExchange 51 = .ok (.aload_n 0, 1) := by decide +kernel
theorem dX9_mendingExchange_52 : decode cX9_mendingExchange 52 = .ok (.iload_n 2, 1) := by decide +kernel
theorem dX9_mendingExchange_53 : decode cX9_mendingExchange 53 = .ok (.iload_n 3, 1) := by decide +kernel
theorem dX9_mendingExchange_54 : decode cX9_mendingExchange 54 = .ok (.invokevirtual 85, 3) := by decide +kernel
theorem dX9_mendingExchange_57 : decode cX9_mendingExchange 57 = .ok (.iinc 3 (-1), 3) := by decide +kernel
theorem dX9_mendingExchange_60 : decode cX9_mendingExchange 60 = .ok (.goto (-39), 3) := by decide +kernel
theorem dX9_mendingExchange_63 : decode cX9_mendingExchange 63 = .ok (.iinc 2 (-1), 3) := by decide +kernel
theorem dX9_mendingExchange_66 : decode cX9_mendingExchange 66 = .ok (.goto (-51), 3) := by decide +kernel
theorem dX9_mendingExchange_69 : decode cX9_mendingExchange 69 = .ok (.iload_n 1, 1) := by decide +kernel
theorem dX9_mendingExchange_70 : decode cX9_mendingExchange 70 = .ok (.ireturn, 1) := by decide +kernel
theorem dX9_lengthOf_0 : decode cX9_lengthOf 0 = .ok (.iload_n 0, 1) := by decide +kernel
theorem dX9_lengthOf_1 : decode cX9_lengthOf 1 = .ok (.bipush 100, 2) := by decide +kernel
theorem dX9_lengthOf_3 : decode cX9_lengthOf 3 = .ok (.if_icmp .ge 7, 3) := by decide +kernel
theorem dX9_lengthOf_6 : decode cX9_lengthOf 6 = .ok (.iconst 1, 1) := by decide +kernel
theorem dX9_lengthOf_7 : decode cX9_lengthOf 7 = .ok (.goto 26, 3) := by decide +kernel
theorem dX9_lengthOf_10 : decode cX9_lengthOf 10 = .ok (.iload_n 0, 1) := by decide +kernel
theorem dX9_lengthOf_11 : decode cX9_lengthOf 11 = .ok (.sipush 1000, 3) := by decide +kernel
theorem dX9_lengthOf_14 : decode cX9_lengthOf 14 = .ok (.if_icmp .ge 7, 3) := by decide +kernel
theorem dX9_lengthOf_17 : decode cX9_lengthOf 17 = .ok (.iconst 2, 1) := by decide +kernel
theorem dX9_lengthOf_18 : decode cX9_lengthOf 18 = .ok (.goto 15, 3) := by decide +kernel
theorem dX9_lengthOf_21 : decode cX9_lengthOf 21 = .ok (.iload_n 0, 1) := by decide +kernel
theorem dX9_lengthOf_22 : decode cX9_lengthOf 22 = .ok (.sipush 10000, 3) := by decide +kernel
theorem dX9_lengthOf_25 : decode cX9_lengthOf 25 = .ok (.if_icmp .ge 7, 3) := by decide +kernel
theorem dX9_lengthOf_28 : decode cX9_lengthOf 28 = .ok (.iconst 3, 1) := by decide +kernel
theorem dX9_lengthOf_29 : decode cX9_lengthOf 29 = .ok (.goto 4, 3) := by decide +kernel
theorem dX9_lengthOf_32 : decode cX9_lengthOf 32 = .ok (.iconst 4, 1) := by decide +kernel
theorem dX9_lengthOf_33 : decode cX9_lengthOf 33 = .ok (.ireturn, 1) := by decide +kernel
theorem dX9_isKnownAs_0 : decode cX9_isKnownAs 0 = .ok (.iconst 1, 1) := by decide +kernel
theorem dX9_isKnownAs_1 : decode cX9_isKnownAs 1 = .ok (.istore_n 2, 1) := by decide +kernel
theorem dX9_isKnownAs_2 : decode cX9_isKnownAs 2 = .ok (.aload_n 0, 1) := by decide +kernel
theorem dX9_isKnownAs_3 : decode cX9_isKnownAs 3 = .ok (.iload_n 1, 1) := by decide +kernel
theorem dX9_isKnownAs_4 : decode cX9_isKnownAs 4 = .ok (.invokevirtual 119, 3) := by decide +kernel
theorem dX9_isKnownAs_7 : decode cX9_isKnownAs 7 = .ok (.istore_n 3, 1) := by decide +kernel
theorem dX9_isKnownAs_8 : decode cX9_isKnownAs 8 = .ok (.iconst 0, 1) := by decide +kernel
theorem dX9_isKnownAs_9 : decode cX9_isKnownAs 9 = .ok (.istore 4, 2) := by decide +kernel
theorem dX9_isKnownAs_11 : decode cX9_isKnownAs 11 = .ok (.iload 4, 2) := by decide +kernel
theorem dX9_isKnownAs_13 : decode cX9_isKnownAs 13 = .ok (.aload_n 0, 1) := by decide +kernel
theorem dX9_isKnownAs_14 : decode cX9_isKnownAs 14 = .ok (.iload_n 1, 1) := by decide +kernel
theorem dX9_isKnownAs_15 : decode cX9_isKnownAs 15 = .ok (.invokevirtual 119, 3) := by decide +kernel
theorem dX9_isKnownAs_18 : decode cX9_isKnownAs 18 = .ok (.invokestatic 137, 3) := by decide +kernel
theorem dX9_isKnownAs_21 : decode cX9_isKnownAs 21 = .ok (.if_icmp .ge 40, 3) := by decide +kernel
theorem dX9_isKnownAs_24 : decode cX9_isKnownAs 24 = .ok (.iload_n 2, 1) := by decide +kernel
theorem dX9_isKnownAs_25 : decode cX9_isKnownAs 25 = .ok (.ifCond .eq 23, 3) := by decide +kernel
theorem dX9_isKnownAs_28 : decode cX9_isKnownAs 28 = .ok (.aload_n 0, 1) := by decide +kernel
theorem dX9_isKnownAs_29 : decode cX9_isKnownAs 29 = .ok (.iconst 0, 1) := by decide +kernel
theorem dX9_isKnownAs_30 : decode cX9_isKnownAs 30 = .ok (.iload_n 3, 1) := by decide +kernel
theorem dX9_isKnownAs_31 : decode cX9_isKnownAs 31 = .ok (.bipush 10, 2) := by decide +kernel
theorem dX9_isKnownAs_33 : decode cX9_isKnownAs 33 = .ok (.irem, 1) := by decide +kernel
theorem dX9_isKnownAs_34 : decode cX9_isKnownAs 34 = .ok (.invokevirtual 122, 3) := by decide +kernel
theorem dX9_isKnownAs_37 : decode cX9_isKnownAs 37 = .ok (.iload_n 3, 1) := by decide +kernel
theorem dX9_isKnownAs_38 : decode cX9_isKnownAs 38 = .ok (.bipush 10, 2) := by decide +kernel
theorem dX9_isKnownAs_40 : decode cX9_isKnownAs 40 = .ok (.irem, 1) := by decide +kernel
theorem dX9_isKnownAs_41 : decode cX9_isKnownAs 41 = .ok (.if_icmp .ne 7, 3) := by decide +kernel
theorem dX9_isKnownAs_44 : decode cX9_isKnownAs 44 = .ok (.iconst 1, 1) := by decide +kernel
theorem dX9_isKnownAs_45 : decode cX9_isKnownAs 45 = .ok (.goto 4, 3) := by decide +kernel
theorem dX9_isKnownAs_48 : decode cX9_isKnownAs 48 = .ok (.iconst 0, 1) := by decide +kernel
theorem dX9_isKnownAs_49 : decode cX9_isKnownAs 49 = .ok (.istore_n 2, 1) := by decide +kernel
theorem dX9_isKnownAs_50 : decode cX9_isKnownAs 50 = .ok (.iload_n 3, 1) := by decide +kernel
theorem dX9_isKnownAs_51 : decode cX9_isKnownAs 51 = .ok (.bipush 10, 2) := by decide +kernel
theorem dX9_isKnownAs_53 : decode cX9_isKnownAs 53 = .ok (.idiv, 1) := by decide +kernel
theorem dX9_isKnownAs_54 : decode cX9_isKnownAs 54 = .ok (.istore_n 3, 1) := by decide +kernel
theorem dX9_isKnownAs_55 : decode cX9_isKnownAs 55 = .ok (.iinc 4 1, 3) := by decide +kernel
theorem dX9_isKnownAs_58 : decode cX9_isKnownAs 58 = .ok (.goto (-47), 3) := by decide +kernel
theorem dX9_isKnownAs_61 : decode cX9_isKnownAs 61 = .ok (.iload_n 2, 1) := by decide +kernel
theorem dX9_isKnownAs_62 : decode cX9_isKnownAs 62 = .ok (.ireturn, 1) := by decide +kernel
theorem dX9_bestEntry_0 : decode cX9_bestEntry 0 = .ok (.iload_n 1, 1) := by decide +kernel
theorem dX9_bestEntry_1 : decode cX9_bestEntry 1 = .ok (.iconst 0, 1) := by decide +kernel
theorem dX9_bestEntry_2 : decode cX9_bestEntry 2 = .ok (.bipush 99, 2) := by decide +kernel
theorem dX9_bestEntry_4 : decode cX9_bestEntry 4 = .ok (.invokestatic 26, 3) := by decide +kernel
theorem dX9_bestEntry_7 : decode cX9_bestEntry 7 = .ok (.ifCond .ne 6, 3) := by decide +kernel
theorem dX9_bestEntry_10 : decode cX9_bestEntry 10 = .ok (.bipush (-2), 2) := by decide +kernel
theorem dX9_bestEntry_12 : decode cX9_bestEntry 12 = .ok (.ireturn, 1) := by decide +kernel
theorem dX9_bestEntry_13 : decode cX9_bestEntry 13 = .ok (.bipush (-6), 2) := by decide +kernel
theorem dX9_bestEntry_15 : decode cX9_bestEntry 15 = .ok (.istore_n 2, 1) := by decide +kernel
theorem dX9_bestEntry_16 : decode cX9_bestEntry 16 = .ok (.iconst 0, 1) := by decide +kernel
theorem dX9_bestEntry_17 : decode cX9_bestEntry 17 = .ok (.istore_n 3, 1) := by decide +kernel
theorem dX9_bestEntry_18 : decode cX9_bestEntry 18 = .ok (.iload_n 3, 1) := by decide +kernel
theorem dX9_bestEntry_19 : decode cX9_bestEntry 19 = .ok (.aload_n 0, 1) := by decide +kernel
theorem dX9_bestEntry_20 : decode cX9_bestEntry 20 = .ok (.getfield 7, 3) := by decide +kernel
theorem dX9_bestEntry_23 : decode cX9_bestEntry 23 = .ok (.iconst 5, 1) := by decide +kernel
theorem dX9_bestEntry_24 : decode cX9_bestEntry 24 = .ok (.iaload, 1) := by decide +kernel
theorem dX9_bestEntry_25 : decode cX9_bestEntry 25 = .ok (.if_icmp .ge 69, 3) := by decide +kernel
theorem dX9_bestEntry_28 : decode cX9_bestEntry 28 = .ok (.aload_n 0, 1) := by decide +kernel
theorem dX9_bestEntry_29 : decode cX9_bestEntry 29 = .ok (.iload_n 3, 1) := by decide +kernel
theorem dX9_bestEntry_30 : decode cX9_bestEntry 30 = .ok (.invokevirtual 116, 3) := by decide +kernel
theorem dX9_bestEntry_33 : decode cX9_bestEntry 33 = .ok (.iload_n 1, 1) := by decide +kernel
theorem dX9_bestEntry_34 : decode cX9_bestEntry 34 = .ok (.if_icmp .ne 15, 3) := by decide +kernel
theorem dX9_bestEntry_37 : decode cX9_bestEntry 37 = .ok (.aload_n 0, 1) := by decide +kernel
theorem dX9_bestEntry_38 : decode cX9_bestEntry 38 = .ok (.iload_n 3, 1) := by decide +kernel
theorem dX9_bestEntry_39 : decode cX9_bestEntry 39 = .ok (.invokevirtual 140, 3) := by decide +kernel
theorem dX9_bestEntry_42 : decode cX9_bestEntry 42 = .ok (.ifCond .eq 7, 3) := by decide +kernel
theorem dX9_bestEntry_45 : decode cX9_bestEntry 45 = .ok (.iconst 1, 1) := by decide +kernel
theorem dX9_bestEntry_46 : decode cX9_bestEntry 46 = .ok (.goto 4, 3) := by decide +kernel
theorem dX9_bestEntry_49 : decode cX9_bestEntry 49 = .ok (.iconst 0, 1) := by decide +kernel
theorem dX9_bestEntry_50 : decode cX9_bestEntry 50 = .ok (.istore 4, 2) := by decide +kernel
theorem dX9_bestEntry_52 : decode cX9_bestEntry 52 = .ok (.iload 4, 2) := by decide +kernel
theorem dX9_bestEntry_54 : decode cX9_bestEntry 54 = .ok (.ifCond .eq 32, 3) := by decide +kernel
theorem dX9_bestEntry_57 : decode cX9_bestEntry 57 = .ok (.iload_n 2, 1) := by decide +kernel
theorem dX9_bestEntry_58 : decode cX9_bestEntry 58 = .ok (.bipush (-6), 2) := by decide +kernel
theorem dX9_bestEntry_60 : decode cX9_bestEntry 60 = .ok (.if_icmp .eq 22, 3) := by decide +kernel
theorem dX9_bestEntry_63 : decode cX9_bestEntry 63 = .ok (.aload_n 0, 1) := by decide +kernel
theorem dX9_bestEntry_64 : decode cX9_bestEntry 64 = .ok (.iload_n 3, 1) := by decide +kernel
theorem dX9_bestEntry_65 : decode cX9_bestEntry 65 = .ok (.invokevirtual 119, 3) := by decide +kernel
theorem dX9_bestEntry_68 : decode cX9_bestEntry 68 = .ok (.invokestatic 137, 3) := by decide +kernel
theorem dX9_bestEntry_71 : decode cX9_bestEntry 71 = .ok (.aload_n 0, 1) := by decide +kernel
theorem dX9_bestEntry_72 : decode cX9_bestEntry 72 = .ok (.iload_n 2, 1) := by decide +kernel
theorem dX9_bestEntry_73 : decode cX9_bestEntry 73 = .ok (.invokevirtual 119, 3) := by decide +kernel
theorem dX9_bestEntry_76 : decode cX9_bestEntry 76 = .ok (.invokestatic 137, 3) := by decide +kernel
theorem dX9_bestEntry_79 : decode cX9_bestEntry 79 = .ok (.if_icmp .ge 7, 3) := by decide +kernel
theorem dX9_bestEntry_82 : decode cX9_bestEntry 82 = .ok (.iload_n 3, 1) := by decide +kernel
theorem dX9_bestEntry_83 : decode cX9_bestEntry 83 = .ok (.goto 4, 3) := by decide +kernel
theorem dX9_bestEntry_86 : decode cX9_bestEntry 86 = .ok (.iload_n 2, 1) := by decide +kernel
theorem dX9_bestEntry_87 : decode cX9_bestEntry 87 = .ok (.istore_n 2, 1) := by decide +kernel
theorem dX9_bestEntry_88 : decode cX9_bestEntry 88 = .ok (.iinc 3 1, 3) := by decide +kernel
theorem dX9_bestEntry_91 : decode cX9_bestEntry 91 = .ok (.goto (-73), 3) := by decide +kernel
theorem dX9_bestEntry_94 : decode cX9_bestEntry 94 = .ok (.iload_n 2, 1) := by decide +kernel
theorem dX9_bestEntry_95 : decode cX9_bestEntry 95 = .ok (.ireturn, 1) := by decide +kernel
theorem dX9_append_0 : decode cX9_append 0 = .ok (.iload_n 1, 1) := by decide +kernel
theorem dX9_append_1 : decode cX9_append 1 = .ok (.bipush 33, 2) := by decide +kernel
theorem dX9_append_3 : decode cX9_append 3 = .ok (.bipush 126, 2) := by decide +kernel
theorem dX9_append_5 : decode cX9_append 5 = .ok (.invokestatic 26, 3) := by decide +kernel
theorem dX9_append_8 : decode cX9_append 8 = .ok (.ifCond .ne 6, 3) := by decide +kernel
theorem dX9_append_11 : decode cX9_append 11 = .ok (.bipush (-2), 2) := by decide +kernel
theorem dX9_append_13 : decode cX9_append 13 = .ok (.ireturn, 1) := by decide +kernel
theorem dX9_append_14 : decode cX9_append 14 = .ok (.aload_n 0, 1) := by decide +kernel
theorem dX9_append_15 : decode cX9_append 15 = .ok (.getfield 143, 3) := by decide +kernel
theorem dX9_append_18 : decode cX9_append 18 = .ok (.bipush 50, 2) := by decide +kernel
theorem dX9_append_20 : decode cX9_append 20 = .ok (.if_icmp .ne 6, 3) := by decide +kernel
theorem dX9_append_23 : decode cX9_append 23 = .ok (.bipush (-4), 2) := by decide +kernel
theorem dX9_append_25 : decode cX9_append 25 = .ok (.ireturn, 1) := by decide +kernel
theorem dX9_append_26 : decode cX9_append 26 = .ok (.aload_n 0, 1) := by decide +kernel
theorem dX9_append_27 : decode cX9_append 27 = .ok (.getfield 19, 3) := by decide +kernel
theorem dX9_append_30 : decode cX9_append 30 = .ok (.aload_n 0, 1) := by decide +kernel
theorem dX9_append_31 : decode cX9_append 31 = .ok (.getfield 143, 3) := by decide +kernel
theorem dX9_append_34 : decode cX9_append 34 = .ok (.iload_n 1, 1) := by decide +kernel
theorem dX9_append_35 : decode cX9_append 35 = .ok (.i2c, 1) := by decide +kernel
theorem dX9_append_36 : decode cX9_append 36 = .ok (.castore, 1) := by decide +kernel
theorem dX9_append_37 : decode cX9_append 37 = .ok (.aload_n 0, 1) := by decide +kernel
theorem dX9_append_38 : decode cX9_append 38 = .ok (.dup, 1) := by decide +kernel
theorem dX9_append_39 : decode cX9_append 39 = .ok (.getfield 143, 3) := by decide +kernel
theorem dX9_append_42 : decode cX9_append 42 = .ok (.iconst 1, 1) := by decide +kernel
theorem dX9_append_43 : decode cX9_append 43 = .ok (.iadd, 1) := by decide +kernel
theorem dX9_append_44 : decode cX9_append 44 = .ok (.putfield 143, 3) := by decide +kernel
theorem dX9_append_47 : decode cX9_append 47 = .ok (.aload_n 0, 1) := by decide +kernel
theorem dX9_append_48 : decode cX9_append 48 = .ok (.getfield 143, 3) := by decide +kernel
theorem dX9_append_51 : decode cX9_append 51 = .ok (.ireturn, 1) := by decide +kernel
theorem dX9_clearText_0 : decode cX9_clearText 0 = .ok (.aload_n 0, 1) := by decide +kernel
theorem dX9_clearText_1 : decode cX9_clearText 1 = .ok (.getfield 143, 3) := by decide +kernel
theorem dX9_clearText_4 : decode cX9_clearText 4 = .ok (.istore_n 1, 1) := by decide +kernel
theorem dX9_clearText_5 : decode cX9_clearText 5 = .ok (.aload_n 0, 1) := by decide +kernel
theorem dX9_clearText_6 : decode cX9_clearText 6 = .ok (.iconst 0, 1) := by decide +kernel
theorem dX9_clearText_7 : decode cX9_clearText 7 = .ok (.putfield 143, 3) := by decide +kernel
theorem dX9_clearText_10 : decode cX9_clearText 10 = .ok (.iload_n 1, 1) := by decide +kernel
theorem dX9_clearText_11 : decode cX9_clearText 11 = .ok (.ireturn, 1) := by decide +kernel
theorem dX9_letter_0 : decode cX9_letter 0 = .ok (.aload_n 0, 1) := by decide +kernel
theorem dX9_letter_1 : decode cX9_letter 1 = .ok (.getfield 146, 3) := by decide +kernel
theorem dX9_letter_4 : decode cX9_letter 4 = .ok (.aload_n 0, 1) := by decide +kernel
theorem dX9_letter_5 : decode cX9_letter 5 = .ok (.getfield 143, 3) := by decide +kernel
theorem dX9_letter_8 : decode cX9_letter 8 = .ok (.if_icmp .ge 15, 3) := by decide +kernel
theorem dX9_letter_11 : decode cX9_letter 11 = .ok (.aload_n 0, 1) := by decide +kernel
theorem dX9_letter_12 : decode cX9_letter 12 = .ok (.getfield 19, 3) := by decide +kernel
theorem dX9_letter_15 : decode cX9_letter 15 = .ok (.aload_n 0, 1) := by decide +kernel
theorem dX9_letter_16 : decode cX9_letter 16 = .ok (.getfield 146, 3) := by decide +kernel
theorem dX9_letter_19 : decode cX9_letter 19 = .ok (.caload, 1) := by decide +kernel
theorem dX9_letter_20 : decode cX9_letter 20 = .ok (.goto 5, 3) := by decide +kernel
theorem dX9_letter_23 : decode cX9_letter 23 = .ok (.bipush (-6), 2) := by decide +kernel
theorem dX9_letter_25 : decode cX9_letter 25 = .ok (.ireturn, 1) := by decide +kernel
theorem dX9_wants_0 : decode cX9_wants 0 = .ok (.aload_n 0, 1) := by decide +kernel
theorem dX9_wants_1 : decode cX9_wants 1 = .ok (.getfield 149, 3) := by decide +kernel
theorem dX9_wants_4 : decode cX9_wants 4 = .ok (.bipush (-6), 2) := by decide +kernel
theorem dX9_wants_6 : decode cX9_wants 6 = .ok (.if_icmp .ne 30, 3) := by decide +kernel
theorem dX9_wants_9 : decode cX9_wants 9 = .ok (.aload_n 0, 1) := by decide +kernel
theorem dX9_wants_10 : decode cX9_wants 10 = .ok (.iload_n 1, 1) := by decide +kernel
theorem dX9_wants_11 : decode cX9_wants 11 = .ok (.ifCond .eq 8, 3) := by decide +kernel
theorem dX9_wants_14 : decode cX9_wants 14 = .ok (.bipush (-6), 2) := by decide +kernel
theorem dX9_wants_16 : decode cX9_wants 16 = .ok (.goto 7, 3) := by decide +kernel
theorem dX9_wants_19 : decode cX9_wants 19 = .ok (.aload_n 0, 1) := by decide +kernel
theorem dX9_wants_20 : decode cX9_wants 20 = .ok (.getfield 146, 3) := by decide +kernel
theorem dX9_wants_23 : decode cX9_wants 23 = .ok (.putfield 149, 3) := by decide +kernel
theorem dX9_wants_26 : decode cX9_wants 26 = .ok (.aload_n 0, 1) := by decide +kernel
theorem dX9_wants_27 : decode cX9_wants 27 = .ok (.dup, 1) := by decide +kernel
theorem dX9_wants_28 : decode cX9_wants 28 = .ok (.getfield 146, 3) := by decide +kernel
theorem dX9_wants_31 : decode cX9_wants 31 = .ok (.iconst 1, 1) := by decide +kernel
theorem dX9_wants_32 : decode cX9_wants 32 = .ok (.iadd, 1) := by decide +kernel
theorem dX9_wants_33 : decode cX9_wants 33 = .ok (.putfield 146, 3) := by decide +kernel
theorem dX9_wants_36 : decode cX9_wants 36 = .ok (.return_, 1) := by decide +kernel
theorem dX9_figure_0 : decode cX9_figure 0 = .ok (.aload_n 0, 1) := by decide +kernel
theorem dX9_figure_1 : decode cX9_figure 1 = .ok (.invokevirtual 152, 3) := by decide +kernel
theorem dX9_figure_4 : decode cX9_figure 4 = .ok (.bipush 48, 2) := by decide +kernel
theorem dX9_figure_6 : decode cX9_figure 6 = .ok (.isub, 1) := by decide +kernel
theorem dX9_figure_7 : decode cX9_figure 7 = .ok (.istore_n 3, 1) := by decide +kernel
theorem dX9_figure_8 : decode cX9_figure 8 = .ok (.aload_n 0, 1) := by decide +kernel
theorem dX9_figure_9 : decode cX9_figure 9 = .ok (.iload_n 3, 1) := by decide +kernel
theorem dX9_figure_10 : decode cX9_figure 10 = .ok (.iload_n 1, 1) := by decide +kernel
theorem dX9_figure_11 : decode cX9_figure 11 = .ok (.iload_n 2, 1) := by decide +kernel
theorem dX9_figure_12 : decode cX9_figure 12 = .ok (.invokestatic 26, 3) := by decide +kernel
theorem dX9_figure_15 : decode cX9_figure 15 = .ok (.invokevirtual 155, 3) := by decide +kernel
theorem dX9_figure_18 : decode cX9_figure 18 = .ok (.iload_n 3, 1) := by decide +kernel
theorem dX9_figure_19 : decode cX9_figure 19 = .ok (.ireturn, 1) := by decide +kernel
theorem dX9_isSignNext_0 : decode cX9_isSignNext 0 = .ok (.aload_n 0, 1) := by decide +kernel
theorem dX9_isSignNext_1 : decode cX9_isSignNext 1 = .ok (.invokevirtual 152, 3) := by decide +kernel
theorem dX9_isSignNext_4 : decode cX9_isSignNext 4 = .ok (.bipush 48, 2) := by decide +kernel
theorem dX9_isSignNext_6 : decode cX9_isSignNext 6 = .ok (.bipush 57, 2) := by decide +kernel
theorem dX9_isSignNext_8 : decode cX9_isSignNext 8 = .ok (.invokestatic 26, 3) := by decide +kernel
theorem dX9_isSignNext_11 : decode cX9_isSignNext 11 = .ok (.ifCond .ne 16, 3) := by decide +kernel
theorem dX9_isSignNext_14 : decode cX9_isSignNext 14 = .ok (.aload_n 0, 1) := by decide +kernel
theorem dX9_isSignNext_15 : decode cX9_isSignNext 15 = .ok (.invokevirtual 152, 3) := by decide +kernel
theorem dX9_isSignNext_18 : decode cX9_isSignNext 18 = .ok (.bipush 114, 2) := by decide +kernel
theorem dX9_isSignNext_20 : decode cX9_isSignNext 20 = .ok (.if_icmp .ne 11, 3) := by decide +kernel
theorem dX9_isSignNext_23 : decode cX9_isSignNext 23 = .ok (.iload_n 1, 1) := by decide +kernel
theorem dX9_isSignNext_24 : decode cX9_isSignNext 24 = .ok (.ifCond .le 7, 3) := by decide +kernel
theorem dX9_isSignNext_27 : decode cX9_isSignNext 27 = .ok (.iconst 1, 1) := by decide +kernel
theorem dX9_isSignNext_28 : decode cX9_isSignNext 28 = .ok (.goto 4, 3) := by decide +kernel
theorem dX9_isSignNext_31 : decode cX9_isSignNext 31 = .ok (.iconst 0, 1) := by decide +kernel
theorem dX9_isSignNext_32 : decode cX9_isSignNext 32 = .ok (.ireturn, 1) := by decide +kernel
theorem dX9_readSign_0 : decode cX9_readSign 0 = .ok (.aload_n 0, 1) := by decide +kernel
theorem dX9_readSign_1 : decode cX9_readSign 1 = .ok (.getfield 23, 3) := by decide +kernel
theorem dX9_readSign_4 : decode cX9_readSign 4 = .ok (.iconst 5, 1) := by decide +kernel
theorem dX9_readSign_5 : decode cX9_readSign 5 = .ok (.iload_n 1, 1) := by decide +kernel
theorem dX9_readSign_6 : decode cX9_readSign 6 = .ok (.imul, 1) := by decide +kernel
theorem dX9_readSign_7 : decode cX9_readSign 7 = .ok (.iaload, 1) := by decide +kernel
theorem dX9_readSign_8 : decode cX9_readSign 8 = .ok (.istore_n 2, 1) := by decide +kernel
theorem dX9_readSign_9 : decode cX9_readSign 9 = .ok (.aload_n 0, 1) := by decide +kernel
theorem dX9_readSign_10 : decode cX9_readSign 10 = .ok (.aload_n 0, 1) := by decide +kernel
theorem dX9_readSign_11 : decode cX9_readSign 11 = .ok (.iload_n 2, 1) := by decide +kernel
theorem dX9_readSign_12 : decode cX9_readSign 12 = .ok (.invokevirtual 159, 3) := by decide +kernel
theorem dX9_readSign_15 : decode cX9_readSign 15 = .ok (.invokevirtual 155, 3) := by decide +kernel
theorem dX9_readSign_18 : decode cX9_readSign 18 = .ok (.aload_n 0, 1) := by decide +kernel
theorem dX9_readSign_19 : decode cX9_readSign 19 = .ok (.getfield 149, 3) := by decide +kernel
theorem dX9_readSign_22 : decode cX9_readSign 22 = .ok (.bipush (-6), 2) := by decide +kernel
theorem dX9_readSign_24 : decode cX9_readSign 24 = .ok (.if_icmp .ne 20, 3) := by decide +kernel
theorem dX9_readSign_27 : decode cX9_readSign 27 = .ok (.aload_n 0, 1) := by decide +kernel
theorem dX9_readSign_28 : decode cX9_readSign 28 = .ok (.getfield 19, 3) := by decide +kernel
theorem dX9_readSign_31 : decode cX9_readSign 31 = .ok (.aload_n 0, 1) := by decide +kernel
theorem dX9_readSign_32 : decode cX9_readSign 32 = .ok (.getfield 146, 3) := by decide +kernel
theorem dX9_readSign_35 : decode cX9_readSign 35 = .ok (.iconst 1, 1) := by decide +kernel
theorem dX9_readSign_36 : decode cX9_readSign 36 = .ok (.isub, 1) := by decide +kernel
theorem dX9_readSign_37 : decode cX9_readSign 37 = .ok (.caload, 1) := by decide +kernel
theorem dX9_readSign_38 : decode cX9_readSign 38 = .ok (.bipush 48, 2) := by decide +kernel
theorem dX9_readSign_40 : decode cX9_readSign 40 = .ok (.isub, 1) := by decide +kernel
theorem dX9_readSign_41 : decode cX9_readSign 41 = .ok (.goto 4, 3) := by decide +kernel
theorem dX9_readSign_44 : decode cX9_readSign 44 = .ok (.iconst 0, 1) := by decide +kernel
theorem dX9_readSign_45 : decode cX9_readSign 45 = .ok (.istore_n 3, 1) := by decide +kernel
theorem dX9_readSign_46 : decode cX9_readSign 46 = .ok (.aload_n 0, 1) := by decide +kernel
theorem dX9_readSign_47 : decode cX9_readSign 47 = .ok (.getfield 149, 3) := by decide +kernel
theorem dX9_readSign_50 : decode cX9_readSign 50 = .ok (.bipush (-6), 2) := by decide +kernel
theorem dX9_readSign_52 : decode cX9_readSign 52 = .ok (.if_icmp .ne 38, 3) := by decide +kernel
theorem dX9_readSign_55 : decode cX9_readSign 55 = .ok (.aload_n 0, 1) := by decide +kernel
theorem dX9_readSign_56 : decode cX9_readSign 56 = .ok (.getfield 19, 3) := by decide +kernel
theorem dX9_readSign_59 : decode cX9_readSign 59 = .ok (.aload_n 0, 1) := by decide +kernel
theorem dX9_readSign_60 : decode cX9_readSign 60 = .ok (.getfield 146, 3) := by decide +kernel
theorem dX9_readSign_63 : decode cX9_readSign 63 = .ok (.iconst 1, 1) := by decide +kernel
theorem dX9_readSign_64 : decode cX9_readSign 64 = .ok (.isub, 1) := by decide +kernel
theorem dX9_readSign_65 : decode cX9_readSign 65 = .ok (.caload, 1) := by decide +kernel
theorem dX9_readSign_66 : decode cX9_readSign 66 = .ok (.bipush 114, 2) := by decide +kernel
theorem dX9_readSign_68 : decode cX9_readSign 68 = .ok (.if_icmp .ne 22, 3) := by decide +kernel
theorem dX9_readSign_71 : decode cX9_readSign 71 = .ok (.bipush 10, 2) := by decide +kernel
theorem dX9_readSign_73 : decode cX9_readSign 73 = .ok (.aload_n 0, 1) := by decide +kernel
theorem dX9_readSign_74 : decode cX9_readSign 74 = .ok (.iconst 1, 1) := by decide +kernel
theorem dX9_readSign_75 : decode cX9_readSign 75 = .ok (.iload_n 2, 1) := by decide +kernel
theorem dX9_readSign_76 : decode cX9_readSign 76 = .ok (.iconst 3, 1) := by decide +kernel
theorem dX9_readSign_77 : decode cX9_readSign 77 = .ok (.if_icmp .ge 7, 3) := by decide +kernel
theorem dX9_readSign_80 : decode cX9_readSign 80 = .ok (.iload_n 2, 1) := by decide +kernel
theorem dX9_readSign_81 : decode cX9_readSign 81 = .ok (.goto 4, 3) := by decide +kernel
theorem dX9_readSign_84 : decode cX9_readSign 84 = .ok (.iconst 3, 1) := by decide +kernel
theorem dX9_readSign_85 : decode cX9_readSign 85 = .ok (.invokevirtual 162, 3) := by decide +kernel
theorem dX9_readSign_88 : decode cX9_readSign 88 = .ok (.iadd, 1) := by decide +kernel
theorem dX9_readSign_89 : decode cX9_readSign 89 = .ok (.istore_n 3, 1) := by decide +kernel
theorem dX9_readSign_90 : decode cX9_readSign 90 = .ok (.aload_n 0, 1) := by decide +kernel
theorem dX9_readSign_91 : decode cX9_readSign 91 = .ok (.getfield 149, 3) := by decide +kernel
theorem dX9_readSign_94 : decode cX9_readSign 94 = .ok (.bipush (-6), 2) := by decide +kernel
theorem dX9_readSign_96 : decode cX9_readSign 96 = .ok (.if_icmp .ne 33, 3) := by decide +kernel
theorem dX9_readSign_99 : decode cX9_readSign 99 = .ok (.aload_n 0, 1) := by decide +kernel
theorem dX9_readSign_100 : decode cX9_readSign 100 = .ok (.getfield 23, 3) := by decide +kernel
theorem dX9_readSign_103 : decode cX9_readSign 103 = .ok (.iconst 5, 1) := by decide +kernel
theorem dX9_readSign_104 : decode cX9_readSign 104 = .ok (.iload_n 1, 1) := by decide +kernel
theorem dX9_readSign_105 : decode cX9_readSign 105 = .ok (.imul, 1) := by decide +kernel
theorem dX9_readSign_106 : decode cX9_readSign 106 = .ok (.dup2, 1) := by decide +kernel
theorem dX9_readSign_107 : decode cX9_readSign 107 = .ok (.iaload, 1) := by decide +kernel
theorem dX9_readSign_108 : decode cX9_readSign 108 = .ok (.iconst 1, 1) := by decide +kernel
theorem dX9_readSign_109 : decode cX9_readSign 109 = .ok (.iadd, 1) := by decide +kernel
theorem dX9_readSign_110 : decode cX9_readSign 110 = .ok (.iastore, 1) := by decide +kernel
theorem dX9_readSign_111 : decode cX9_readSign 111 = .ok (.aload_n 0, 1) := by decide +kernel
theorem dX9_readSign_112 : decode cX9_readSign 112 = .ok (.getfield 23, 3) := by decide +kernel
theorem dX9_readSign_115 : decode cX9_readSign 115 = .ok (.iconst 5, 1) := by decide +kernel
theorem dX9_readSign_116 : decode cX9_readSign 116 = .ok (.iload_n 1, 1) := by decide +kernel
theorem dX9_readSign_117 : decode cX9_readSign 117 = .ok (.imul, 1) := by decide +kernel
theorem dX9_readSign_118 : decode cX9_readSign 118 = .ok (.aload_n 0, 1) := by decide +kernel
theorem dX9_readSign_119 : decode cX9_readSign 119 = .ok (.getfield 23, 3) := by decide +kernel
theorem dX9_readSign_122 : decode cX9_readSign 122 = .ok (.iconst 5, 1) := by decide +kernel
theorem dX9_readSign_123 : decode cX9_readSign 123 = .ok (.iload_n 1, 1) := by decide +kernel
theorem dX9_readSign_124 : decode cX9_readSign 124 = .ok (.imul, 1) := by decide +kernel
theorem dX9_readSign_125 : decode cX9_readSign 125 = .ok (.iaload, 1) := by decide +kernel
theorem dX9_readSign_126 : decode cX9_readSign 126 = .ok (.iadd, 1) := by decide +kernel
theorem dX9_readSign_127 : decode cX9_readSign 127 = .ok (.iload_n 3, 1) := by decide +kernel
theorem dX9_readSign_128 : decode cX9_readSign 128 = .ok (.iastore, 1) := by decide +kernel
theorem dX9_readSign_129 : decode cX9_readSign 129 = .ok (.return_, 1) := by decide +kernel
theorem dX9_readHoist_0 : decode cX9_readHoist 0 = .ok (.aload_n 0, 1) := by decide +kernel
theorem dX9_readHoist_1 : decode cX9_readHoist 1 = .ok (.aload_n 0, 1) := by decide +kernel
theorem dX9_readHoist_2 : decode cX9_readHoist 2 = .ok (.getfield 165, 3) := by decide +kernel
theorem dX9_readHoist_5 : decode cX9_readHoist 5 = .ok (.iconst 1, 1) := by decide +kernel
theorem dX9_readHoist_6 : decode cX9_readHoist 6 = .ok (.iadd, 1) := by decide +kernel
theorem dX9_readHoist_7 : decode cX9_readHoist 7 = .ok (.iconst 4, 1) := by decide +kernel
theorem dX9_readHoist_8 : decode cX9_readHoist 8 = .ok (.invokevirtual 162, 3) := by decide +kernel
theorem dX9_readHoist_11 : decode cX9_readHoist 11 = .ok (.istore_n 1, 1) := by decide +kernel
theorem dX9_readHoist_12 : decode cX9_readHoist 12 = .ok (.aload_n 0, 1) := by decide +kernel
theorem dX9_readHoist_13 : decode cX9_readHoist 13 = .ok (.aload_n 0, 1) := by decide +kernel
theorem dX9_readHoist_14 : decode cX9_readHoist 14 = .ok (.invokevirtual 152, 3) := by decide +kernel
theorem dX9_readHoist_17 : decode cX9_readHoist 17 = .ok (.bipush 58, 2) := by decide +kernel
theorem dX9_readHoist_19 : decode cX9_readHoist 19 = .ok (.if_icmp .ne 7, 3) := by decide +kernel
theorem dX9_readHoist_22 : decode cX9_readHoist 22 = .ok (.iconst 1, 1) := by decide +kernel
theorem dX9_readHoist_23 : decode cX9_readHoist 23 = .ok (.goto 4, 3) := by decide +kernel
theorem dX9_readHoist_26 : decode cX9_readHoist 26 = .ok (.iconst 0, 1) := by decide +kernel
theorem dX9_readHoist_27 : decode cX9_readHoist 27 = .ok (.invokevirtual 155, 3) := by decide +kernel
theorem dX9_readHoist_30 : decode cX9_readHoist 30 = .ok (.aload_n 0, 1) := by decide +kernel
theorem dX9_readHoist_31 : decode cX9_readHoist 31 = .ok (.getfield 149, 3) := by decide +kernel
theorem dX9_readHoist_34 : decode cX9_readHoist 34 = .ok (.bipush (-6), 2) := by decide +kernel
theorem dX9_readHoist_36 : decode cX9_readHoist 36 = .ok (.if_icmp .ne 13, 3) := by decide +kernel
theorem dX9_readHoist_39 : decode cX9_readHoist 39 = .ok (.aload_n 0, 1) := by decide +kernel
theorem dX9_readHoist_40 : decode cX9_readHoist 40 = .ok (.iload_n 1, 1) := by decide +kernel
theorem dX9_readHoist_41 : decode cX9_readHoist 41 = .ok (.putfield 165, 3) := by decide +kernel
theorem dX9_readHoist_44 : decode cX9_readHoist 44 = .ok (.aload_n 0, 1) := by decide +kernel
theorem dX9_readHoist_45 : decode cX9_readHoist 45 = .ok (.iload_n 1, 1) := by decide +kernel
theorem dX9_readHoist_46 : decode cX9_readHoist 46 = .ok (.invokevirtual 168, 3) := by decide +kernel
theorem dX9_readHoist_49 : decode cX9_readHoist 49 = .ok (.aload_n 0, 1) := by decide +kernel
theorem dX9_readHoist_50 : decode cX9_readHoist 50 = .ok (.getfield 149, 3) := by decide +kernel
theorem dX9_readHoist_53 : decode cX9_readHoist 53 = .ok (.bipush (-6), 2) := by decide +kernel
theorem dX9_readHoist_55 : decode cX9_readHoist 55 = .ok (.if_icmp .ne 38, 3) := by decide +kernel
theorem dX9_readHoist_58 : decode cX9_readHoist 58 = .ok (.aload_n 0, 1) := by decide +kernel
theorem dX9_readHoist_59 : decode cX9_readHoist 59 = .ok (.getfield 23, 3) := by decide +kernel
theorem dX9_readHoist_62 : decode cX9_readHoist 62 = .ok (.iconst 5, 1) := by decide +kernel
theorem dX9_readHoist_63 : decode cX9_readHoist 63 = .ok (.iload_n 1, 1) := by decide +kernel
theorem dX9_readHoist_64 : decode cX9_readHoist 64 = .ok (.imul, 1) := by decide +kernel
theorem dX9_readHoist_65 : decode cX9_readHoist 65 = .ok (.iaload, 1) := by decide +kernel
theorem dX9_readHoist_66 : decode cX9_readHoist 66 = .ok (.iconst 4, 1) := by decide +kernel
theorem dX9_readHoist_67 : decode cX9_readHoist 67 = .ok (.if_icmp .ge 26, 3) := by decide +kernel
theorem dX9_readHoist_70 : decode cX9_readHoist 70 = .ok (.aload_n 0, 1) := by decide +kernel
theorem dX9_readHoist_71 : decode cX9_readHoist 71 = .ok (.aload_n 0, 1) := by decide +kernel
theorem dX9_readHoist_72 : decode cX9_readHoist 72 = .ok (.getfield 23, 3) := by decide +kernel
theorem dX9_readHoist_75 : decode cX9_readHoist 75 = .ok (.iconst 5, 1) := by decide +kernel
theorem dX9_readHoist_76 : decode cX9_readHoist 76 = .ok (.iload_n 1, 1) := by decide +kernel
theorem dX9_readHoist_77 : decode cX9_readHoist 77 = .ok (.imul, 1) := by decide +kernel
theorem dX9_readHoist_78 : decode cX9_readHoist 78 = .ok (.iaload, 1) := by decide +kernel
theorem dX9_readHoist_79 : decode cX9_readHoist 79 = .ok (.invokevirtual 159, 3) := by decide +kernel
theorem dX9_readHoist_82 : decode cX9_readHoist 82 = .ok (.ifCond .eq 11, 3) := by decide +kernel
theorem dX9_readHoist_85 : decode cX9_readHoist 85 = .ok (.aload_n 0, 1) := by decide +kernel
theorem dX9_readHoist_86 : decode cX9_readHoist 86 = .ok (.iload_n 1, 1) := by decide +kernel
theorem dX9_readHoist_87 : decode cX9_readHoist 87 = .ok (.invokevirtual 168, 3) := by decide +kernel
theorem dX9_readHoist_90 : decode cX9_readHoist 90 = .ok (.goto (-41), 3) := by decide +kernel
theorem dX9_readHoist_93 : decode cX9_readHoist 93 = .ok (.return_, 1) := by decide +kernel
theorem dX9_errorPosition_0 : decode cX9_errorPosition 0 = .ok (.iconst 0, 1) := by decide +kernel
theorem dX9_errorPosition_1 : decode cX9_errorPosition 1 = .ok (.istore_n 1, 1) := by decide +kernel
theorem dX9_errorPosition_2 : decode cX9_errorPosition 2 = .ok (.iload_n 1, 1) := by decide +kernel
theorem dX9_errorPosition_3 : decode cX9_errorPosition 3 = .ok (.bipush 25, 2) := by decide +kernel
theorem dX9_errorPosition_5 : decode cX9_errorPosition 5 = .ok (.if_icmp .ge 16, 3) := by decide +kernel
theorem dX9_errorPosition_8 : decode cX9_errorPosition 8 = .ok (.aload_n 0, 1) := by decide +kernel
theorem dX9_errorPosition_9 : decode cX9_errorPosition 9 = .ok (.getfield 23, 3) := by decide +kernel
theorem dX9_errorPosition_12 : decode cX9_errorPosition 12 = .ok (.iload_n 1, 1) := by decide +kernel
theorem dX9_errorPosition_13 : decode cX9_errorPosition 13 = .ok (.iconst 0, 1) := by decide +kernel
theorem dX9_errorPosition_14 : decode cX9_errorPosition 14 = .ok (.iastore, 1) := by decide +kernel
theorem dX9_errorPosition_15 : decode cX9_errorPosition 15 = .ok (.iinc 1 1, 3) := by decide +kernel
theorem dX9_errorPosition_18 : decode cX9_errorPosition 18 = .ok (.goto (-16), 3) := by decide +kernel
theorem dX9_errorPosition_21 : decode cX9_errorPosition 21 = .ok (.aload_n 0, 1) := by decide +kernel
theorem dX9_errorPosition_22 : decode cX9_errorPosition 22 = .ok (.iconst (-1), 1) := by decide +kernel
theorem dX9_errorPosition_23 : decode cX9_errorPosition 23 = .ok (.putfield 165, 3) := by decide +kernel
theorem dX9_errorPosition_26 : decode cX9_errorPosition 26 = .ok (.aload_n 0, 1) := by decide +kernel
theorem dX9_errorPosition_27 : decode cX9_errorPosition 27 = .ok (.iconst 0, 1) := by decide +kernel
theorem dX9_errorPosition_28 : decode cX9_errorPosition 28 = .ok (.putfield 146, 3) := by decide +kernel
theorem dX9_errorPosition_31 : decode cX9_errorPosition 31 = .ok (.aload_n 0, 1) := by decide +kernel
theorem dX9_errorPosition_32 : decode cX9_errorPosition 32 = .ok (.bipush (-6), 2) := by decide +kernel
theorem dX9_errorPosition_34 : decode cX9_errorPosition 34 = .ok (.putfield 149, 3) := by decide +kernel
theorem dX9_errorPosition_37 : decode cX9_errorPosition 37 = .ok (.iconst 1, 1) := by decide +kernel
theorem dX9_errorPosition_38 : decode cX9_errorPosition 38 = .ok (.istore_n 1, 1) := by decide +kernel
theorem dX9_errorPosition_39 : decode cX9_errorPosition 39 = .ok (.iload_n 1, 1) := by decide +kernel
theorem dX9_errorPosition_40 : decode cX9_errorPosition 40 = .ok (.ifCond .eq 81, 3) := by decide +kernel
theorem dX9_errorPosition_43 : decode cX9_errorPosition 43 = .ok (.aload_n 0, 1) := by decide +kernel
theorem dX9_errorPosition_44 : decode cX9_errorPosition 44 = .ok (.invokevirtual 172, 3) := by decide +kernel
theorem dX9_errorPosition_47 : decode cX9_errorPosition 47 = .ok (.aload_n 0, 1) := by decide +kernel
theorem dX9_errorPosition_48 : decode cX9_errorPosition 48 = .ok (.getfield 149, 3) := by decide +kernel
theorem dX9_errorPosition_51 : decode cX9_errorPosition 51 = .ok (.bipush (-6), 2) := by decide +kernel
theorem dX9_errorPosition_53 : decode cX9_errorPosition 53 = .ok (.if_icmp .ne 18, 3) := by decide +kernel
theorem dX9_errorPosition_56 : decode cX9_errorPosition 56 = .ok (.aload_n 0, 1) := by decide +kernel
theorem dX9_errorPosition_57 : decode cX9_errorPosition 57 = .ok (.getfield 146, 3) := by decide +kernel
theorem dX9_errorPosition_60 : decode cX9_errorPosition 60 = .ok (.aload_n 0, 1) := by decide +kernel
theorem dX9_errorPosition_61 : decode cX9_errorPosition 61 = .ok (.getfield 143, 3) := by decide +kernel
theorem dX9_errorPosition_64 : decode cX9_errorPosition 64 = .ok (.if_icmp .ge 7, 3) := by decide +kernel
theorem dX9_errorPosition_67 : decode cX9_errorPosition 67 = .ok (.iconst 1, 1) := by decide +kernel
theorem dX9_errorPosition_68 : decode cX9_errorPosition 68 = .ok (.goto 4, 3) := by decide +kernel
theorem dX9_errorPosition_71 : decode cX9_errorPosition 71 = .ok (.iconst 0, 1) := by decide +kernel
theorem dX9_errorPosition_72 : decode cX9_errorPosition 72 = .ok (.istore_n 1, 1) := by decide +kernel
theorem dX9_errorPosition_73 : decode cX9_errorPosition 73 = .ok (.iload_n 1, 1) := by decide +kernel
theorem dX9_errorPosition_74 : decode cX9_errorPosition 74 = .ok (.ifCond .eq (-35), 3) := by decide +kernel
theorem dX9_errorPosition_77 : decode cX9_errorPosition 77 = .ok (.aload_n 0, 1) := by decide +kernel
theorem dX9_errorPosition_78 : decode cX9_errorPosition 78 = .ok (.aload_n 0, 1) := by decide +kernel
theorem dX9_errorPosition_79 : decode cX9_errorPosition 79 = .ok (.invokevirtual 152, 3) := by decide +kernel
theorem dX9_errorPosition_82 : decode cX9_errorPosition 82 = .ok (.bipush 44, 2) := by decide +kernel
theorem dX9_errorPosition_84 : decode cX9_errorPosition 84 = .ok (.if_icmp .ne 15, 3) := by decide +kernel
theorem dX9_errorPosition_87 : decode cX9_errorPosition 87 = .ok (.aload_n 0, 1) := by decide +kernel
theorem dX9_errorPosition_88 : decode cX9_errorPosition 88 = .ok (.getfield 165, 3) := by decide +kernel
theorem dX9_errorPosition_91 : decode cX9_errorPosition 91 = .ok (.iconst 4, 1) := by decide +kernel
theorem dX9_errorPosition_92 : decode cX9_errorPosition 92 = .ok (.if_icmp .ge 7, 3) := by decide +kernel
theorem dX9_errorPosition_95 : decode cX9_errorPosition 95 = .ok (.iconst 1, 1) := by decide +kernel
theorem dX9_errorPosition_96 : decode cX9_errorPosition 96 = .ok (.goto 4, 3) := by decide +kernel
theorem dX9_errorPosition_99 : decode cX9_errorPosition 99 = .ok (.iconst 0, 1) := by decide +kernel
theorem dX9_errorPosition_100 : decode cX9_errorPosition 100 = .ok (.invokevirtual 155, 3) := by decide +kernel
theorem dX9_errorPosition_103 : decode cX9_errorPosition 103 = .ok (.aload_n 0, 1) := by decide +kernel
theorem dX9_errorPosition_104 : decode cX9_errorPosition 104 = .ok (.getfield 149, 3) := by decide +kernel
theorem dX9_errorPosition_107 : decode cX9_errorPosition 107 = .ok (.bipush (-6), 2) := by decide +kernel
theorem dX9_errorPosition_109 : decode cX9_errorPosition 109 = .ok (.if_icmp .ne 7, 3) := by decide +kernel
theorem dX9_errorPosition_112 : decode cX9_errorPosition 112 = .ok (.iconst 1, 1) := by decide +kernel
theorem dX9_errorPosition_113 : decode cX9_errorPosition 113 = .ok (.goto 4, 3) := by decide +kernel
theorem dX9_errorPosition_116 : decode cX9_errorPosition 116 = .ok (.iconst 0, 1) := by decide +kernel
theorem dX9_errorPosition_117 : decode cX9_errorPosition 117 = .ok (.istore_n 1, 1) := by decide +kernel
theorem dX9_errorPosition_118 : decode cX9_errorPosition 118 = .ok (.goto (-79), 3) := by decide +kernel
theorem dX9_errorPosition_121 : decode cX9_errorPosition 121 = .ok (.aload_n 0, 1) := by decide +kernel
theorem dX9_errorPosition_122 : decode cX9_errorPosition 122 = .ok (.getfield 149, 3) := by decide +kernel
theorem dX9_errorPosition_125 : decode cX9_errorPosition 125 = .ok (.ireturn, 1) := by decide +kernel
theorem dX9_neededOf_0 : decode cX9_neededOf 0 = .ok (.iconst 0, 1) := by decide +kernel
theorem dX9_neededOf_1 : decode cX9_neededOf 1 = .ok (.istore_n 2, 1) := by decide +kernel
theorem dX9_neededOf_2 : decode cX9_neededOf 2 = .ok (.iconst 0, 1) := by decide +kernel
theorem dX9_neededOf_3 : decode cX9_neededOf 3 = .ok (.istore_n 3, 1) := by decide +kernel
theorem dX9_neededOf_4 : decode cX9_neededOf 4 = .ok (.iload_n 3, 1) := by decide +kernel
theorem dX9_neededOf_5 : decode cX9_neededOf 5 = .ok (.iconst 5, 1) := by decide +kernel
theorem dX9_neededOf_6 : decode cX9_neededOf 6 = .ok (.if_icmp .ge 54, 3) := by decide +kernel
theorem dX9_neededOf_9 : decode cX9_neededOf 9 = .ok (.iconst 1, 1) := by decide +kernel
theorem dX9_neededOf_10 : decode cX9_neededOf 10 = .ok (.istore 4, 2) := by decide +kernel
theorem dX9_neededOf_12 : decode cX9_neededOf 12 = .ok (.iload 4, 2) := by decide +kernel
theorem dX9_neededOf_14 : decode cX9_neededOf 14 = .ok (.aload_n 0, 1) := by decide +kernel
theorem dX9_neededOf_15 : decode cX9_neededOf 15 = .ok (.getfield 23, 3) := by decide +kernel
theorem dX9_neededOf_18 : decode cX9_neededOf 18 = .ok (.iconst 5, 1) := by decide +kernel
theorem dX9_neededOf_19 : decode cX9_neededOf 19 = .ok (.iload_n 3, 1) := by decide +kernel
theorem dX9_neededOf_20 : decode cX9_neededOf 20 = .ok (.imul, 1) := by decide +kernel
theorem dX9_neededOf_21 : decode cX9_neededOf 21 = .ok (.iaload, 1) := by decide +kernel
theorem dX9_neededOf_22 : decode cX9_neededOf 22 = .ok (.if_icmp .gt 32, 3) := by decide +kernel
theorem dX9_neededOf_25 : decode cX9_neededOf 25 = .ok (.iload_n 2, 1) := by decide +kernel
theorem dX9_neededOf_26 : decode cX9_neededOf 26 = .ok (.aload_n 0, 1) := by decide +kernel
theorem dX9_neededOf_27 : decode cX9_neededOf 27 = .ok (.getfield 23, 3) := by decide +kernel
theorem dX9_neededOf_30 : decode cX9_neededOf 30 = .ok (.iconst 5, 1) := by decide +kernel
theorem dX9_neededOf_31 : decode cX9_neededOf 31 = .ok (.iload_n 3, 1) := by decide +kernel
theorem dX9_neededOf_32 : decode cX9_neededOf 32 = .ok (.imul, 1) := by decide +kernel
theorem dX9_neededOf_33 : decode cX9_neededOf 33 = .ok (.iload 4, 2) := by decide +kernel
theorem dX9_neededOf_35 : decode cX9_neededOf 35 = .ok (.iadd, 1) := by decide +kernel
theorem dX9_neededOf_36 : decode cX9_neededOf 36 = .ok (.iaload, 1) := by decide +kernel
theorem dX9_neededOf_37 : decode cX9_neededOf 37 = .ok (.iload_n 1, 1) := by decide +kernel
theorem dX9_neededOf_38 : decode cX9_neededOf 38 = .ok (.if_icmp .ne 7, 3) := by decide +kernel
theorem dX9_neededOf_41 : decode cX9_neededOf 41 = .ok (.iconst 1, 1) := by decide +kernel
theorem dX9_neededOf_42 : decode cX9_neededOf 42 = .ok (.goto 4, 3) := by decide +kernel
theorem dX9_neededOf_45 : decode cX9_neededOf 45 = .ok (.iconst 0, 1) := by decide +kernel
theorem dX9_neededOf_46 : decode cX9_neededOf 46 = .ok (.iadd, 1) := by decide +kernel
theorem dX9_neededOf_47 : decode cX9_neededOf 47 = .ok (.istore_n 2, 1) := by decide +kernel
theorem dX9_neededOf_48 : decode cX9_neededOf 48 = .ok (.iinc 4 1, 3) := by decide +kernel
theorem dX9_neededOf_51 : decode cX9_neededOf 51 = .ok (.goto (-39), 3) := by decide +kernel
theorem dX9_neededOf_54 : decode cX9_neededOf 54 = .ok (.iinc 3 1, 3) := by decide +kernel
theorem dX9_neededOf_57 : decode cX9_neededOf 57 = .ok (.goto (-53), 3) := by decide +kernel
theorem dX9_neededOf_60 : decode cX9_neededOf 60 = .ok (.iload_n 2, 1) := by decide +kernel
theorem dX9_neededOf_61 : decode cX9_neededOf 61 = .ok (.ireturn, 1) := by decide +kernel
theorem dX9_hoist_0 : decode cX9_hoist 0 = .ok (.aload_n 0, 1) := by decide +kernel
theorem dX9_hoist_1 : decode cX9_hoist 1 = .ok (.invokevirtual 175, 3) := by decide +kernel
theorem dX9_hoist_4 : decode cX9_hoist 4 = .ok (.bipush (-6), 2) := by decide +kernel
theorem dX9_hoist_6 : decode cX9_hoist 6 = .ok (.if_icmp .eq 6, 3) := by decide +kernel
theorem dX9_hoist_9 : decode cX9_hoist 9 = .ok (.bipush (-5), 2) := by decide +kernel
theorem dX9_hoist_11 : decode cX9_hoist 11 = .ok (.ireturn, 1) := by decide +kernel
theorem dX9_hoist_12 : decode cX9_hoist 12 = .ok (.iconst 0, 1) := by decide +kernel
theorem dX9_hoist_13 : decode cX9_hoist 13 = .ok (.istore_n 1, 1) := by decide +kernel
theorem dX9_hoist_14 : decode cX9_hoist 14 = .ok (.iload_n 1, 1) := by decide +kernel
theorem dX9_hoist_15 : decode cX9_hoist 15 = .ok (.bipush 13, 2) := by decide +kernel
theorem dX9_hoist_17 : decode cX9_hoist 17 = .ok (.if_icmp .gt 26, 3) := by decide +kernel
theorem dX9_hoist_20 : decode cX9_hoist 20 = .ok (.aload_n 0, 1) := by decide +kernel
theorem dX9_hoist_21 : decode cX9_hoist 21 = .ok (.iload_n 1, 1) := by decide +kernel
theorem dX9_hoist_22 : decode cX9_hoist 22 = .ok (.invokevirtual 178, 3) := by decide +kernel
theorem dX9_hoist_25 : decode cX9_hoist 25 = .ok (.aload_n 0, 1) := by decide +kernel
theorem dX9_hoist_26 : decode cX9_hoist 26 = .ok (.getfield 7, 3) := by decide +kernel
theorem dX9_hoist_29 : decode cX9_hoist 29 = .ok (.iconst 0, 1) := by decide +kernel
theorem dX9_hoist_30 : decode cX9_hoist 30 = .ok (.iaload, 1) := by decide +kernel
theorem dX9_hoist_31 : decode cX9_hoist 31 = .ok (.if_icmp .le 6, 3) := by decide +kernel
theorem dX9_hoist_34 : decode cX9_hoist 34 = .ok (.bipush (-4), 2) := by decide +kernel
theorem dX9_hoist_36 : decode cX9_hoist 36 = .ok (.ireturn, 1) := by decide +kernel
theorem dX9_hoist_37 : decode cX9_hoist 37 = .ok (.iinc 1 1, 3) := by decide +kernel
theorem dX9_hoist_40 : decode cX9_hoist 40 = .ok (.goto (-26), 3) := by decide +kernel
theorem dX9_hoist_43 : decode cX9_hoist 43 = .ok (.aload_n 0, 1) := by decide +kernel
theorem dX9_hoist_44 : decode cX9_hoist 44 = .ok (.invokevirtual 57, 3) := by decide +kernel
theorem dX9_hoist_47 : decode cX9_hoist 47 = .ok (.aload_n 0, 1) := by decide +kernel
theorem dX9_hoist_48 : decode cX9_hoist 48 = .ok (.invokevirtual 97, 3) := by decide +kernel
theorem dX9_hoist_51 : decode cX9_hoist 51 = .ok (.iconst 0, 1) := by decide +kernel
theorem dX9_hoist_52 : decode cX9_hoist 52 = .ok (.istore_n 1, 1) := by decide +kernel
theorem dX9_hoist_53 : decode cX9_hoist 53 = .ok (.iload_n 1, 1) := by decide +kernel
theorem dX9_hoist_54 : decode cX9_hoist 54 = .ok (.iconst 5, 1) := by decide +kernel
theorem dX9_hoist_55 : decode cX9_hoist 55 = .ok (.if_icmp .ge 44, 3) := by decide +kernel
theorem dX9_hoist_58 : decode cX9_hoist 58 = .ok (.iconst 1, 1) := by decide +kernel
theorem dX9_hoist_59 : decode cX9_hoist 59 = .ok (.istore_n 2, 1) := by decide +kernel
theorem dX9_hoist_60 : decode cX9_hoist 60 = .ok (.iload_n 2, 1) := by decide +kernel
theorem dX9_hoist_61 : decode cX9_hoist 61 = .ok (.aload_n 0, 1) := by decide +kernel
theorem dX9_hoist_62 : decode cX9_hoist 62 = .ok (.getfield 23, 3) := by decide +kernel
theorem dX9_hoist_65 : decode cX9_hoist 65 = .ok (.iconst 5, 1) := by decide +kernel
theorem dX9_hoist_66 : decode cX9_hoist 66 = .ok (.iload_n 1, 1) := by decide +kernel
theorem dX9_hoist_67 : decode cX9_hoist 67 = .ok (.imul, 1) := by decide +kernel
theorem dX9_hoist_68 : decode cX9_hoist 68 = .ok (.iaload, 1) := by decide +kernel
theorem dX9_hoist_69 : decode cX9_hoist 69 = .ok (.if_icmp .gt 24, 3) := by decide +kernel
theorem dX9_hoist_72 : decode cX9_hoist 72 = .ok (.aload_n 0, 1) := by decide +kernel
theorem dX9_hoist_73 : decode cX9_hoist 73 = .ok (.iload_n 1, 1) := by decide +kernel
theorem dX9_hoist_74 : decode cX9_hoist 74 = .ok (.aload_n 0, 1) := by decide +kernel
theorem dX9_hoist_75 : decode cX9_hoist 75 = .ok (.getfield 23, 3) := by decide +kernel
theorem dX9_hoist_78 : decode cX9_hoist 78 = .ok (.iconst 5, 1) := by decide +kernel
theorem dX9_hoist_79 : decode cX9_hoist 79 = .ok (.iload_n 1, 1) := by decide +kernel
theorem dX9_hoist_80 : decode cX9_hoist 80 = .ok (.imul, 1) := by decide +kernel
theorem dX9_hoist_81 : decode cX9_hoist 81 = .ok (.iload_n 2, 1) := by decide +kernel
theorem dX9_hoist_82 : decode cX9_hoist 82 = .ok (.iadd, 1) := by decide +kernel
theorem dX9_hoist_83 : decode cX9_hoist 83 = .ok (.iaload, 1) := by decide +kernel
theorem dX9_hoist_84 : decode cX9_hoist 84 = .ok (.invokevirtual 81, 3) := by decide +kernel
theorem dX9_hoist_87 : decode cX9_hoist 87 = .ok (.iinc 2 1, 3) := by decide +kernel
theorem dX9_hoist_90 : decode cX9_hoist 90 = .ok (.goto (-30), 3) := by decide +kernel
theorem dX9_hoist_93 : decode cX9_hoist 93 = .ok (.iinc 1 1, 3) := by decide +kernel
theorem dX9_hoist_96 : decode cX9_hoist 96 = .ok (.goto (-43), 3) := by decide +kernel
theorem dX9_hoist_99 : decode cX9_hoist 99 = .ok (.aload_n 0, 1) := by decide +kernel
theorem dX9_hoist_100 : decode cX9_hoist 100 = .ok (.iconst 0, 1) := by decide +kernel
theorem dX9_hoist_101 : decode cX9_hoist 101 = .ok (.putfield 143, 3) := by decide +kernel
theorem dX9_hoist_104 : decode cX9_hoist 104 = .ok (.aload_n 0, 1) := by decide +kernel
theorem dX9_hoist_105 : decode cX9_hoist 105 = .ok (.invokevirtual 45, 3) := by decide +kernel
theorem dX9_hoist_108 : decode cX9_hoist 108 = .ok (.ireturn, 1) := by decide +kernel
theorem dL_law_0 : decode cL_law 0 = .ok (.new 7, 3) := by decide +kernel
theorem dL_law_3 : decode cL_law 3 = .ok (.dup, 1) := by decide +kernel
theorem dL_law_4 : decode cL_law 4 = .ok (.invokespecial 9, 3) := by decide +kernel
theorem dL_law_7 : decode cL_law 7 = .ok (.astore_n 1, 1) := by decide +kernel
theorem dL_law_8 : decode cL_law 8 = .ok (.new 10, 3) := by decide +kernel
theorem dL_law_11 : decode cL_law 11 = .ok (.dup, 1) := by decide +kernel
theorem dL_law_12 : decode cL_law 12 = .ok (.invokespecial 12, 3) := by decide +kernel
theorem dL_law_15 : decode cL_law 15 = .ok (.astore_n 2, 1) := by decide +kernel
theorem dL_law_16 : decode cL_law 16 = .ok (.iconst 0, 1) := by decide +kernel
theorem dL_law_17 : decode cL_law 17 = .ok (.istore_n 3, 1) := by decide +kernel
theorem dL_law_18 : decode cL_law 18 = .ok (.iload_n 3, 1) := by decide +kernel
theorem dL_law_19 : decode cL_law 19 = .ok (.aload_n 0, 1) := by decide +kernel
theorem dL_law_20 : decode cL_law 20 = .ok (.arraylength, 1) := by decide +kernel
theorem dL_law_21 : decode cL_law 21 = .ok (.iconst 5, 1) := by decide +kernel
theorem dL_law_22 : decode cL_law 22 = .ok (.isub, 1) := by decide +kernel
theorem dL_law_23 : decode cL_law 23 = .ok (.if_icmp .gt 918, 3) := by decide +kernel
theorem dL_law_26 : decode cL_law 26 = .ok (.aload_n 0, 1) := by decide +kernel
theorem dL_law_27 : decode cL_law 27 = .ok (.iload_n 3, 1) := by decide +kernel
theorem dL_law_28 : decode cL_law 28 = .ok (.iaload, 1) := by decide +kernel
theorem dL_law_29 : decode cL_law 29 = .ok (.bipush 31, 2) := by decide +kernel
theorem dL_law_31 : decode cL_law 31 = .ok (.iand, 1) := by decide +kernel
theorem dL_law_32 : decode cL_law 32 = .ok (.tableswitch 903 0 30 #[140, 193, 216, 249, 282, 315, 338, 371, 384, 427, 460, 483, 516, 559, 592, 615, 628, 651, 664, 697, 720, 743, 766, 779, 802, 825, 838, 851, 864, 877, 890], 140) := by decide +kernel
theorem dL_law_172 : decode cL_law 172 = .ok (.aload_n 1, 1) := by decide +kernel
theorem dL_law_173 : decode cL_law 173 = .ok (.aload_n 0, 1) := by decide +kernel
theorem dL_law_174 : decode cL_law 174 = .ok (.iload_n 3, 1) := by decide +kernel
theorem dL_law_175 : decode cL_law 175 = .ok (.iconst 1, 1) := by decide +kernel
theorem dL_law_176 : decode cL_law 176 = .ok (.iadd, 1) := by decide +kernel
theorem dL_law_177 : decode cL_law 177 = .ok (.iaload, 1) := by decide +kernel
theorem dL_law_178 : decode cL_law 178 = .ok (.aload_n 0, 1) := by decide +kernel
theorem dL_law_179 : decode cL_law 179 = .ok (.iload_n 3, 1) := by decide +kernel
theorem dL_law_180 : decode cL_law 180 = .ok (.iconst 2, 1) := by decide +kernel
theorem dL_law_181 : decode cL_law 181 = .ok (.iadd, 1) := by decide +kernel
theorem dL_law_182 : decode cL_law 182 = .ok (.iaload, 1) := by decide +kernel
theorem dL_law_183 : decode cL_law 183 = .ok (.aload_n 0, 1) := by decide +kernel
theorem dL_law_184 : decode cL_law 184 = .ok (.iload_n 3, 1) := by decide +kernel
theorem dL_law_185 : decode cL_law 185 = .ok (.iconst 3, 1) := by decide +kernel
theorem dL_law_186 : decode cL_law 186 = .ok (.iadd, 1) := by decide +kernel
theorem dL_law_187 : decode cL_law 187 = .ok (.iaload, 1) := by decide +kernel
theorem dL_law_188 : decode cL_law 188 = .ok (.aload_n 0, 1) := by decide +kernel
theorem dL_law_189 : decode cL_law 189 = .ok (.iload_n 3, 1) := by decide +kernel
theorem dL_law_190 : decode cL_law 190 = .ok (.iconst 4, 1) := by decide +kernel
theorem dL_law_191 : decode cL_law 191 = .ok (.iadd, 1) := by decide +kernel
theorem dL_law_192 : decode cL_law 192 = .ok (.iaload, 1) := by decide +kernel
theorem dL_law_193 : decode cL_law 193 = .ok (.invokevirtual 13, 3) := by decide +kernel
theorem dL_law_196 : decode cL_law 196 = .ok (.aload_n 2, 1) := by decide +kernel
theorem dL_law_197 : decode cL_law 197 = .ok (.aload_n 0, 1) := by decide +kernel
theorem dL_law_198 : decode cL_law 198 = .ok (.iload_n 3, 1) := by decide +kernel
theorem dL_law_199 : decode cL_law 199 = .ok (.iconst 1, 1) := by decide +kernel
theorem dL_law_200 : decode cL_law 200 = .ok (.iadd, 1) := by decide +kernel
theorem dL_law_201 : decode cL_law 201 = .ok (.iaload, 1) := by decide +kernel
theorem dL_law_202 : decode cL_law 202 = .ok (.aload_n 0, 1) := by decide +kernel
theorem dL_law_203 : decode cL_law 203 = .ok (.iload_n 3, 1) := by decide +kernel
theorem dL_law_204 : decode cL_law 204 = .ok (.iconst 2, 1) := by decide +kernel
theorem dL_law_205 : decode cL_law 205 = .ok (.iadd, 1) := by decide +kernel
theorem dL_law_206 : decode cL_law 206 = .ok (.iaload, 1) := by decide +kernel
theorem dL_law_207 : decode cL_law 207 = .ok (.aload_n 0, 1) := by decide +kernel
theorem dL_law_208 : decode cL_law 208 = .ok (.iload_n 3, 1) := by decide +kernel
theorem dL_law_209 : decode cL_law 209 = .ok (.iconst 3, 1) := by decide +kernel
theorem dL_law_210 : decode cL_law 210 = .ok (.iadd, 1) := by decide +kernel
theorem dL_law_211 : decode cL_law 211 = .ok (.iaload, 1) := by decide +kernel
theorem dL_law_212 : decode cL_law 212 = .ok (.aload_n 0, 1) := by decide +kernel
theorem dL_law_213 : decode cL_law 213 = .ok (.iload_n 3, 1) := by decide +kernel
theorem dL_law_214 : decode cL_law 214 = .ok (.iconst 4, 1) := by decide +kernel
theorem dL_law_215 : decode cL_law 215 = .ok (.iadd, 1) := by decide +kernel
theorem dL_law_216 : decode cL_law 216 = .ok (.iaload, 1) := by decide +kernel
theorem dL_law_217 : decode cL_law 217 = .ok (.invokevirtual 17, 3) := by decide +kernel
theorem dL_law_220 : decode cL_law 220 = .ok (.if_icmp .eq 715, 3) := by decide +kernel
theorem dL_law_223 : decode cL_law 223 = .ok (.iconst 0, 1) := by decide +kernel
theorem dL_law_224 : decode cL_law 224 = .ok (.ireturn, 1) := by decide +kernel
theorem dL_law_225 : decode cL_law 225 = .ok (.aload_n 1, 1) := by decide +kernel
theorem dL_law_226 : decode cL_law 226 = .ok (.aload_n 0, 1) := by decide +kernel
theorem dL_law_227 : decode cL_law 227 = .ok (.iload_n 3, 1) := by decide +kernel
theorem dL_law_228 : decode cL_law 228 = .ok (.iconst 1, 1) := by decide +kernel
theorem dL_law_229 : decode cL_law 229 = .ok (.iadd, 1) := by decide +kernel
theorem dL_law_230 : decode cL_law 230 = .ok (.iaload, 1) := by decide +kernel
theorem dL_law_231 : decode cL_law 231 = .ok (.invokevirtual 18, 3) := by decide +kernel
theorem dL_law_234 : decode cL_law 234 = .ok (.aload_n 2, 1) := by decide +kernel
theorem dL_law_235 : decode cL_law 235 = .ok (.aload_n 0, 1) := by decide +kernel
theorem dL_law_236 : decode cL_law 236 = .ok (.iload_n 3, 1) := by decide +kernel
theorem dL_law_237 : decode cL_law 237 = .ok (.iconst 1, 1) := by decide +kernel
theorem dL_law_238 : decode cL_law 238 = .ok (.iadd, 1) := by decide +kernel
theorem dL_law_239 : decode cL_law 239 = .ok (.iaload, 1) := by decide +kernel
theorem dL_law_240 : decode cL_law 240 = .ok (.invokevirtual 22, 3) := by decide +kernel
theorem dL_law_243 : decode cL_law 243 = .ok (.if_icmp .eq 692, 3) := by decide +kernel
theorem dL_law_246 : decode cL_law 246 = .ok (.iconst 0, 1) := by decide +kernel
theorem dL_law_247 : decode cL_law 247 = .ok (.ireturn, 1) := by decide +kernel
theorem dL_law_248 : decode cL_law 248 = .ok (.aload_n 1, 1) := by decide +kernel
theorem dL_law_249 : decode cL_law 249 = .ok (.aload_n 0, 1) := by decide +kernel
theorem dL_law_250 : decode cL_law 250 = .ok (.iload_n 3, 1) := by decide +kernel
theorem dL_law_251 : decode cL_law 251 = .ok (.iconst 1, 1) := by decide +kernel
theorem dL_law_252 : decode cL_law 252 = .ok (.iadd, 1) := by decide +kernel
theorem dL_law_253 : decode cL_law 253 = .ok (.iaload, 1) := by decide +kernel
theorem dL_law_254 : decode cL_law 254 = .ok (.aload_n 0, 1) := by decide +kernel
theorem dL_law_255 : decode cL_law 255 = .ok (.iload_n 3, 1) := by decide +kernel
theorem dL_law_256 : decode cL_law 256 = .ok (.iconst 2, 1) := by decide +kernel
theorem dL_law_257 : decode cL_law 257 = .ok (.iadd, 1) := by decide +kernel
theorem dL_law_258 : decode cL_law 258 = .ok (.iaload, 1) := by decide +kernel
theorem dL_law_259 : decode cL_law 259 = .ok (.invokevirtual 23, 3) := by decide +kernel
theorem dL_law_262 : decode cL_law 262 = .ok (.aload_n 2, 1) := by decide +kernel
theorem dL_law_263 : decode cL_law 263 = .ok (.aload_n 0, 1) := by decide +kernel
theorem dL_law_264 : decode cL_law 264 = .ok (.iload_n 3, 1) := by decide +kernel
theorem dL_law_265 : decode cL_law 265 = .ok (.iconst 1, 1) := by decide +kernel
theorem dL_law_266 : decode cL_law 266 = .ok (.iadd, 1) := by decide +kernel
theorem dL_law_267 : decode cL_law 267 = .ok (.iaload, 1) := by decide +kernel
theorem dL_law_268 : decode cL_law 268 = .ok (.aload_n 0, 1) := by decide +kernel
theorem dL_law_269 : decode cL_law 269 = .ok (.iload_n 3, 1) := by decide +kernel
theorem dL_law_270 : decode cL_law 270 = .ok (.iconst 2, 1) := by decide +kernel
theorem dL_law_271 : decode cL_law 271 = .ok (.iadd, 1) := by decide +kernel
theorem dL_law_272 : decode cL_law 272 = .ok (.iaload, 1) := by decide +kernel
theorem dL_law_273 : decode cL_law 273 = .ok (.invokevirtual 27, 3) := by decide +kernel
theorem dL_law_276 : decode cL_law 276 = .ok (.if_icmp .eq 659, 3) := by decide +kernel
theorem dL_law_279 : decode cL_law 279 = .ok (.iconst 0, 1) := by decide +kernel
theorem dL_law_280 : decode cL_law 280 = .ok (.ireturn, 1) := by decide +kernel
theorem dL_law_281 : decode cL_law 281 = .ok (.aload_n 1, 1) := by decide +kernel
theorem dL_law_282 : decode cL_law 282 = .ok (.aload_n 0, 1) := by decide +kernel
theorem dL_law_283 : decode cL_law 283 = .ok (.iload_n 3, 1) := by decide +kernel
theorem dL_law_284 : decode cL_law 284 = .ok (.iconst 1, 1) := by decide +kernel
theorem dL_law_285 : decode cL_law 285 = .ok (.iadd, 1) := by decide +kernel
theorem dL_law_286 : decode cL_law 286 = .ok (.iaload, 1) := by decide +kernel
theorem dL_law_287 : decode cL_law 287 = .ok (.aload_n 0, 1) := by decide +kernel
theorem dL_law_288 : decode cL_law 288 = .ok (.iload_n 3, 1) := by decide +kernel
theorem dL_law_289 : decode cL_law 289 = .ok (.iconst 2, 1) := by decide +kernel
theorem dL_law_290 : decode cL_law 290 = .ok (.iadd, 1) := by decide +kernel
theorem dL_law_291 : decode cL_law 291 = .ok (.iaload, 1) := by decide +kernel
theorem dL_law_292 : decode cL_law 292 = .ok (.invokevirtual 28, 3) := by decide +kernel
theorem dL_law_295 : decode cL_law 295 = .ok (.aload_n 2, 1) := by decide +kernel
theorem dL_law_296 : decode cL_law 296 = .ok (.aload_n 0, 1) := by decide +kernel
theorem dL_law_297 : decode cL_law 297 = .ok (.iload_n 3, 1) := by decide +kernel
theorem dL_law_298 : decode cL_law 298 = .ok (.iconst 1, 1) := by decide +kernel
theorem dL_law_299 : decode cL_law 299 = .ok (.iadd, 1) := by decide +kernel
theorem dL_law_300 : decode cL_law 300 = .ok (.iaload, 1) := by decide +kernel
theorem dL_law_301 : decode cL_law 301 = .ok (.aload_n 0, 1) := by decide +kernel
theorem dL_law_302 : decode cL_law 302 = .ok (.iload_n 3, 1) := by decide +kernel
theorem dL_law_303 : decode cL_law 303 = .ok (.iconst 2, 1) := by decide +kernel
theorem dL_law_304 : decode cL_law 304 = .ok (.iadd, 1) := by decide +kernel
theorem dL_law_305 : decode cL_law 305 = .ok (.iaload, 1) := by decide +kernel
theorem dL_law_306 : decode cL_law 306 = .ok (.invokevirtual 31, 3) := by decide +kernel
theorem dL_law_309 : decode cL_law 309 = .ok (.if_icmp .eq 626, 3) := by decide +kernel
theorem dL_law_312 : decode cL_law 312 = .ok (.iconst 0, 1) := by decide +kernel
theorem dL_law_313 : decode cL_law 313 = .ok (.ireturn, 1) := by decide +kernel
theorem dL_law_314 : decode cL_law 314 = .ok (.aload_n 1, 1) := by decide +kernel
theorem dL_law_315 : decode cL_law 315 = .ok (.aload_n 0, 1) := by decide +kernel
theorem dL_law_316 : decode cL_law 316 = .ok (.iload_n 3, 1) := by decide +kernel
theorem dL_law_317 : decode cL_law 317 = .ok (.iconst 1, 1) := by decide +kernel
theorem dL_law_318 : decode cL_law 318 = .ok (.iadd, 1) := by decide +kernel
theorem dL_law_319 : decode cL_law 319 = .ok (.iaload, 1) := by decide +kernel
theorem dL_law_320 : decode cL_law 320 = .ok (.aload_n 0, 1) := by decide +kernel
theorem dL_law_321 : decode cL_law 321 = .ok (.iload_n 3, 1) := by decide +kernel
theorem dL_law_322 : decode cL_law 322 = .ok (.iconst 2, 1) := by decide +kernel
theorem dL_law_323 : decode cL_law 323 = .ok (.iadd, 1) := by decide +kernel
theorem dL_law_324 : decode cL_law 324 = .ok (.iaload, 1) := by decide +kernel
theorem dL_law_325 : decode cL_law 325 = .ok (.invokevirtual 32, 3) := by decide +kernel
theorem dL_law_328 : decode cL_law 328 = .ok (.aload_n 2, 1) := by decide +kernel
theorem dL_law_329 : decode cL_law 329 = .ok (.aload_n 0, 1) := by decide +kernel
theorem dL_law_330 : decode cL_law 330 = .ok (.iload_n 3, 1) := by decide +kernel
theorem dL_law_331 : decode cL_law 331 = .ok (.iconst 1, 1) := by decide +kernel
theorem dL_law_332 : decode cL_law 332 = .ok (.iadd, 1) := by decide +kernel
theorem dL_law_333 : decode cL_law 333 = .ok (.iaload, 1) := by decide +kernel
theorem dL_law_334 : decode cL_law 334 = .ok (.aload_n 0, 1) := by decide +kernel
theorem dL_law_335 : decode cL_law 335 = .ok (.iload_n 3, 1) := by decide +kernel
theorem dL_law_336 : decode cL_law 336 = .ok (.iconst 2, 1) := by decide +kernel
theorem dL_law_337 : decode cL_law 337 = .ok (.iadd, 1) := by decide +kernel
theorem dL_law_338 : decode cL_law 338 = .ok (.iaload, 1) := by decide +kernel
theorem dL_law_339 : decode cL_law 339 = .ok (.invokevirtual 35, 3) := by decide +kernel
theorem dL_law_342 : decode cL_law 342 = .ok (.if_icmp .eq 593, 3) := by decide +kernel
theorem dL_law_345 : decode cL_law 345 = .ok (.iconst 0, 1) := by decide +kernel
theorem dL_law_346 : decode cL_law 346 = .ok (.ireturn, 1) := by decide +kernel
theorem dL_law_347 : decode cL_law 347 = .ok (.aload_n 1, 1) := by decide +kernel
theorem dL_law_348 : decode cL_law 348 = .ok (.aload_n 0, 1) := by decide +kernel
theorem dL_law_349 : decode cL_law 349 = .ok (.iload_n 3, 1) := by decide +kernel
theorem dL_law_350 : decode cL_law 350 = .ok (.iconst 1, 1) := by decide +kernel
theorem dL_law_351 : decode cL_law 351 = .ok (.iadd, 1) := by decide +kernel
theorem dL_law_352 : decode cL_law 352 = .ok (.iaload, 1) := by decide +kernel
theorem dL_law_353 : decode cL_law 353 = .ok (.invokevirtual 36, 3) := by decide +kernel
theorem dL_law_356 : decode cL_law 356 = .ok (.aload_n 2, 1) := by decide +kernel
theorem dL_law_357 : decode cL_law 357 = .ok (.aload_n 0, 1) := by decide +kernel
theorem dL_law_358 : decode cL_law 358 = .ok (.iload_n 3, 1) := by decide +kernel
theorem dL_law_359 : decode cL_law 359 = .ok (.iconst 1, 1) := by decide +kernel
theorem dL_law_360 : decode cL_law 360 = .ok (.iadd, 1) := by decide +kernel
theorem dL_law_361 : decode cL_law 361 = .ok (.iaload, 1) := by decide +kernel
theorem dL_law_362 : decode cL_law 362 = .ok (.invokevirtual 39, 3) := by decide +kernel
theorem dL_law_365 : decode cL_law 365 = .ok (.if_icmp .eq 570, 3) := by decide +kernel
theorem dL_law_368 : decode cL_law 368 = .ok (.iconst 0, 1) := by decide +kernel
theorem dL_law_369 : decode cL_law 369 = .ok (.ireturn, 1) := by decide +kernel
theorem dL_law_370 : decode cL_law 370 = .ok (.aload_n 1, 1) := by decide +kernel
theorem dL_law_371 : decode cL_law 371 = .ok (.aload_n 0, 1) := by decide +kernel
theorem dL_law_372 : decode cL_law 372 = .ok (.iload_n 3, 1) := by decide +kernel
theorem dL_law_373 : decode cL_law 373 = .ok (.iconst 1, 1) := by decide +kernel
theorem dL_law_374 : decode cL_law 374 = .ok (.iadd, 1) := by decide +kernel
theorem dL_law_375 : decode cL_law 375 = .ok (.iaload, 1) := by decide +kernel
theorem dL_law_376 : decode cL_law 376 = .ok (.aload_n 0, 1) := by decide +kernel
theorem dL_law_377 : decode cL_law 377 = .ok (.iload_n 3, 1) := by decide +kernel
theorem dL_law_378 : decode cL_law 378 = .ok (.iconst 2, 1) := by decide +kernel
theorem dL_law_379 : decode cL_law 379 = .ok (.iadd, 1) := by decide +kernel
theorem dL_law_380 : decode cL_law 380 = .ok (.iaload, 1) := by decide +kernel
theorem dL_law_381 : decode cL_law 381 = .ok (.invokevirtual 40, 3) := by decide +kernel
theorem dL_law_384 : decode cL_law 384 = .ok (.aload_n 2, 1) := by decide +kernel
theorem dL_law_385 : decode cL_law 385 = .ok (.aload_n 0, 1) := by decide +kernel
theorem dL_law_386 : decode cL_law 386 = .ok (.iload_n 3, 1) := by decide +kernel
theorem dL_law_387 : decode cL_law 387 = .ok (.iconst 1, 1) := by decide +kernel
theorem dL_law_388 : decode cL_law 388 = .ok (.iadd, 1) := by decide +kernel
theorem dL_law_389 : decode cL_law 389 = .ok (.iaload, 1) := by decide +kernel
theorem dL_law_390 : decode cL_law 390 = .ok (.aload_n 0, 1) := by decide +kernel
theorem dL_law_391 : decode cL_law 391 = .ok (.iload_n 3, 1) := by decide +kernel
theorem dL_law_392 : decode cL_law 392 = .ok (.iconst 2, 1) := by decide +kernel
theorem dL_law_393 : decode cL_law 393 = .ok (.iadd, 1) := by decide +kernel
theorem dL_law_394 : decode cL_law 394 = .ok (.iaload, 1) := by decide +kernel
theorem dL_law_395 : decode cL_law 395 = .ok (.invokevirtual 43, 3) := by decide +kernel
theorem dL_law_398 : decode cL_law 398 = .ok (.if_icmp .eq 537, 3) := by decide +kernel
theorem dL_law_401 : decode cL_law 401 = .ok (.iconst 0, 1) := by decide +kernel
theorem dL_law_402 : decode cL_law 402 = .ok (.ireturn, 1) := by decide +kernel
theorem dL_law_403 : decode cL_law 403 = .ok (.aload_n 1, 1) := by decide +kernel
theorem dL_law_404 : decode cL_law 404 = .ok (.invokevirtual 44, 3) := by decide +kernel
theorem dL_law_407 : decode cL_law 407 = .ok (.aload_n 2, 1) := by decide +kernel
theorem dL_law_408 : decode cL_law 408 = .ok (.invokevirtual 48, 3) := by decide +kernel
theorem dL_law_411 : decode cL_law 411 = .ok (.if_icmp .eq 524, 3) := by decide +kernel
theorem dL_law_414 : decode cL_law 414 = .ok (.iconst 0, 1) := by decide +kernel
theorem dL_law_415 : decode cL_law 415 = .ok (.ireturn, 1) := by decide +kernel
theorem dL_law_416 : decode cL_law 416 = .ok (.aload_n 1, 1) := by decide +kernel
theorem dL_law_417 : decode cL_law 417 = .ok (.aload_n 0, 1) := by decide +kernel
theorem dL_law_418 : decode cL_law 418 = .ok (.iload_n 3, 1) := by decide +kernel
theorem dL_law_419 : decode cL_law 419 = .ok (.iconst 1, 1) := by decide +kernel
theorem dL_law_420 : decode cL_law 420 = .ok (.iadd, 1) := by decide +kernel
theorem dL_law_421 : decode cL_law 421 = .ok (.iaload, 1) := by decide +kernel
theorem dL_law_422 : decode cL_law 422 = .ok (.aload_n 0, 1) := by decide +kernel
theorem dL_law_423 : decode cL_law 423 = .ok (.iload_n 3, 1) := by decide +kernel
theorem dL_law_424 : decode cL_law 424 = .ok (.iconst 2, 1) := by decide +kernel
theorem dL_law_425 : decode cL_law 425 = .ok (.iadd, 1) := by decide +kernel
theorem dL_law_426 : decode cL_law 426 = .ok (.iaload, 1) := by decide +kernel
theorem dL_law_427 : decode cL_law 427 = .ok (.aload_n 0, 1) := by decide +kernel
theorem dL_law_428 : decode cL_law 428 = .ok (.iload_n 3, 1) := by decide +kernel
theorem dL_law_429 : decode cL_law 429 = .ok (.iconst 3, 1) := by decide +kernel
theorem dL_law_430 : decode cL_law 430 = .ok (.iadd, 1) := by decide +kernel
theorem dL_law_431 : decode cL_law 431 = .ok (.iaload, 1) := by decide +kernel
theorem dL_law_432 : decode cL_law 432 = .ok (.invokevirtual 49, 3) := by decide +kernel
theorem dL_law_435 : decode cL_law 435 = .ok (.aload_n 2, 1) := by decide +kernel
theorem dL_law_436 : decode cL_law 436 = .ok (.aload_n 0, 1) := by decide +kernel
theorem dL_law_437 : decode cL_law 437 = .ok (.iload_n 3, 1) := by decide +kernel
theorem dL_law_438 : decode cL_law 438 = .ok (.iconst 1, 1) := by decide +kernel
theorem dL_law_439 : decode cL_law 439 = .ok (.iadd, 1) := by decide +kernel
theorem dL_law_440 : decode cL_law 440 = .ok (.iaload, 1) := by decide +kernel
theorem dL_law_441 : decode cL_law 441 = .ok (.aload_n 0, 1) := by decide +kernel
theorem dL_law_442 : decode cL_law 442 = .ok (.iload_n 3, 1) := by decide +kernel
theorem dL_law_443 : decode cL_law 443 = .ok (.iconst 2, 1) := by decide +kernel
theorem dL_law_444 : decode cL_law 444 = .ok (.iadd, 1) := by decide +kernel
theorem dL_law_445 : decode cL_law 445 = .ok (.iaload, 1) := by decide +kernel
theorem dL_law_446 : decode cL_law 446 = .ok (.aload_n 0, 1) := by decide +kernel
theorem dL_law_447 : decode cL_law 447 = .ok (.iload_n 3, 1) := by decide +kernel
theorem dL_law_448 : decode cL_law 448 = .ok (.iconst 3, 1) := by decide +kernel
theorem dL_law_449 : decode cL_law 449 = .ok (.iadd, 1) := by decide +kernel
theorem dL_law_450 : decode cL_law 450 = .ok (.iaload, 1) := by decide +kernel
theorem dL_law_451 : decode cL_law 451 = .ok (.invokevirtual 53, 3) := by decide +kernel
theorem dL_law_454 : decode cL_law 454 = .ok (.if_icmp .eq 481, 3) := by decide +kernel
theorem dL_law_457 : decode cL_law 457 = .ok (.iconst 0, 1) := by decide +kernel
theorem dL_law_458 : decode cL_law 458 = .ok (.ireturn, 1) := by decide +kernel
theorem dL_law_459 : decode cL_law 459 = .ok (.aload_n 1, 1) := by decide +kernel
theorem dL_law_460 : decode cL_law 460 = .ok (.aload_n 0, 1) := by decide +kernel
theorem dL_law_461 : decode cL_law 461 = .ok (.iload_n 3, 1) := by decide +kernel
theorem dL_law_462 : decode cL_law 462 = .ok (.iconst 1, 1) := by decide +kernel
theorem dL_law_463 : decode cL_law 463 = .ok (.iadd, 1) := by decide +kernel
theorem dL_law_464 : decode cL_law 464 = .ok (.iaload, 1) := by decide +kernel
theorem dL_law_465 : decode cL_law 465 = .ok (.aload_n 0, 1) := by decide +kernel
theorem dL_law_466 : decode cL_law 466 = .ok (.iload_n 3, 1) := by decide +kernel
theorem dL_law_467 : decode cL_law 467 = .ok (.iconst 2, 1) := by decide +kernel
theorem dL_law_468 : decode cL_law 468 = .ok (.iadd, 1) := by decide +kernel
theorem dL_law_469 : decode cL_law 469 = .ok (.iaload, 1) := by decide +kernel
theorem dL_law_470 : decode cL_law 470 = .ok (.invokevirtual 54, 3) := by decide +kernel
theorem dL_law_473 : decode cL_law 473 = .ok (.aload_n 2, 1) := by decide +kernel
theorem dL_law_474 : decode cL_law 474 = .ok (.aload_n 0, 1) := by decide +kernel
theorem dL_law_475 : decode cL_law 475 = .ok (.iload_n 3, 1) := by decide +kernel
theorem dL_law_476 : decode cL_law 476 = .ok (.iconst 1, 1) := by decide +kernel
theorem dL_law_477 : decode cL_law 477 = .ok (.iadd, 1) := by decide +kernel
theorem dL_law_478 : decode cL_law 478 = .ok (.iaload, 1) := by decide +kernel
theorem dL_law_479 : decode cL_law 479 = .ok (.aload_n 0, 1) := by decide +kernel
theorem dL_law_480 : decode cL_law 480 = .ok (.iload_n 3, 1) := by decide +kernel
theorem dL_law_481 : decode cL_law 481 = .ok (.iconst 2, 1) := by decide +kernel
theorem dL_law_482 : decode cL_law 482 = .ok (.iadd, 1) := by decide +kernel
theorem dL_law_483 : decode cL_law 483 = .ok (.iaload, 1) := by decide +kernel
theorem dL_law_484 : decode cL_law 484 = .ok (.invokevirtual 57, 3) := by decide +kernel
theorem dL_law_487 : decode cL_law 487 = .ok (.if_icmp .eq 448, 3) := by decide +kernel
theorem dL_law_490 : decode cL_law 490 = .ok (.iconst 0, 1) := by decide +kernel
theorem dL_law_491 : decode cL_law 491 = .ok (.ireturn, 1) := by decide +kernel
theorem dL_law_492 : decode cL_law 492 = .ok (.aload_n 1, 1) := by decide +kernel
theorem dL_law_493 : decode cL_law 493 = .ok (.aload_n 0, 1) := by decide +kernel
theorem dL_law_494 : decode cL_law 494 = .ok (.iload_n 3, 1) := by decide +kernel
theorem dL_law_495 : decode cL_law 495 = .ok (.iconst 1, 1) := by decide +kernel
theorem dL_law_496 : decode cL_law 496 = .ok (.iadd, 1) := by decide +kernel
theorem dL_law_497 : decode cL_law 497 = .ok (.iaload, 1) := by decide +kernel
theorem dL_law_498 : decode cL_law 498 = .ok (.invokevirtual 58, 3) := by decide +kernel
theorem dL_law_501 : decode cL_law 501 = .ok (.aload_n 2, 1) := by decide +kernel
theorem dL_law_502 : decode cL_law 502 = .ok (.aload_n 0, 1) := by decide +kernel
theorem dL_law_503 : decode cL_law 503 = .ok (.iload_n 3, 1) := by decide +kernel
theorem dL_law_504 : decode cL_law 504 = .ok (.iconst 1, 1) := by decide +kernel
theorem dL_law_505 : decode cL_law 505 = .ok (.iadd, 1) := by decide +kernel
theorem dL_law_506 : decode cL_law 506 = .ok (.iaload, 1) := by decide +kernel
theorem dL_law_507 : decode cL_law 507 = .ok (.invokevirtual 61, 3) := by decide +kernel
theorem dL_law_510 : decode cL_law 510 = .ok (.if_icmp .eq 425, 3) := by decide +kernel
theorem dL_law_513 : decode cL_law 513 = .ok (.iconst 0, 1) := by decide +kernel
theorem dL_law_514 : decode cL_law 514 = .ok (.ireturn, 1) := by decide +kernel
theorem dL_law_515 : decode cL_law 515 = .ok (.aload_n 1, 1) := by decide +kernel
theorem dL_law_516 : decode cL_law 516 = .ok (.aload_n 0, 1) := by decide +kernel
theorem dL_law_517 : decode cL_law 517 = .ok (.iload_n 3, 1) := by decide +kernel
theorem dL_law_518 : decode cL_law 518 = .ok (.iconst 1, 1) := by decide +kernel
theorem dL_law_519 : decode cL_law 519 = .ok (.iadd, 1) := by decide +kernel
theorem dL_law_520 : decode cL_law 520 = .ok (.iaload, 1) := by decide +kernel
theorem dL_law_521 : decode cL_law 521 = .ok (.aload_n 0, 1) := by decide +kernel
theorem dL_law_522 : decode cL_law 522 = .ok (.iload_n 3, 1) := by decide +kernel
theorem dL_law_523 : decode cL_law 523 = .ok (.iconst 2, 1) := by decide +kernel
theorem dL_law_524 : decode cL_law 524 = .ok (.iadd, 1) := by decide +kernel
theorem dL_law_525 : decode cL_law 525 = .ok (.iaload, 1) := by decide +kernel
theorem dL_law_526 : decode cL_law 526 = .ok (.invokevirtual 62, 3) := by decide +kernel
theorem dL_law_529 : decode cL_law 529 = .ok (.aload_n 2, 1) := by decide +kernel
theorem dL_law_530 : decode cL_law 530 = .ok (.aload_n 0, 1) := by decide +kernel
theorem dL_law_531 : decode cL_law 531 = .ok (.iload_n 3, 1) := by decide +kernel
theorem dL_law_532 : decode cL_law 532 = .ok (.iconst 1, 1) := by decide +kernel
theorem dL_law_533 : decode cL_law 533 = .ok (.iadd, 1) := by decide +kernel
theorem dL_law_534 : decode cL_law 534 = .ok (.iaload, 1) := by decide +kernel
theorem dL_law_535 : decode cL_law 535 = .ok (.aload_n 0, 1) := by decide +kernel
theorem dL_law_536 : decode cL_law 536 = .ok (.iload_n 3, 1) := by decide +kernel
theorem dL_law_537 : decode cL_law 537 = .ok (.iconst 2, 1) := by decide +kernel
theorem dL_law_538 : decode cL_law 538 = .ok (.iadd, 1) := by decide +kernel
theorem dL_law_539 : decode cL_law 539 = .ok (.iaload, 1) := by decide +kernel
theorem dL_law_540 : decode cL_law 540 = .ok (.invokevirtual 65, 3) := by decide +kernel
theorem dL_law_543 : decode cL_law 543 = .ok (.if_icmp .eq 392, 3) := by decide +kernel
theorem dL_law_546 : decode cL_law 546 = .ok (.iconst 0, 1) := by decide +kernel
theorem dL_law_547 : decode cL_law 547 = .ok (.ireturn, 1) := by decide +kernel
theorem dL_law_548 : decode cL_law 548 = .ok (.aload_n 1, 1) := by decide +kernel
theorem dL_law_549 : decode cL_law 549 = .ok (.aload_n 0, 1) := by decide +kernel
theorem dL_law_550 : decode cL_law 550 = .ok (.iload_n 3, 1) := by decide +kernel
theorem dL_law_551 : decode cL_law 551 = .ok (.iconst 1, 1) := by decide +kernel
theorem dL_law_552 : decode cL_law 552 = .ok (.iadd, 1) := by decide +kernel
theorem dL_law_553 : decode cL_law 553 = .ok (.iaload, 1) := by decide +kernel
theorem dL_law_554 : decode cL_law 554 = .ok (.aload_n 0, 1) := by decide +kernel
theorem dL_law_555 : decode cL_law 555 = .ok (.iload_n 3, 1) := by decide +kernel
theorem dL_law_556 : decode cL_law 556 = .ok (.iconst 2, 1) := by decide +kernel
theorem dL_law_557 : decode cL_law 557 = .ok (.iadd, 1) := by decide +kernel
theorem dL_law_558 : decode cL_law 558 = .ok (.iaload, 1) := by decide +kernel
theorem dL_law_559 : decode cL_law 559 = .ok (.aload_n 0, 1) := by decide +kernel
theorem dL_law_560 : decode cL_law 560 = .ok (.iload_n 3, 1) := by decide +kernel
theorem dL_law_561 : decode cL_law 561 = .ok (.iconst 3, 1) := by decide +kernel
theorem dL_law_562 : decode cL_law 562 = .ok (.iadd, 1) := by decide +kernel
theorem dL_law_563 : decode cL_law 563 = .ok (.iaload, 1) := by decide +kernel
theorem dL_law_564 : decode cL_law 564 = .ok (.invokevirtual 66, 3) := by decide +kernel
theorem dL_law_567 : decode cL_law 567 = .ok (.aload_n 2, 1) := by decide +kernel
theorem dL_law_568 : decode cL_law 568 = .ok (.aload_n 0, 1) := by decide +kernel
theorem dL_law_569 : decode cL_law 569 = .ok (.iload_n 3, 1) := by decide +kernel
theorem dL_law_570 : decode cL_law 570 = .ok (.iconst 1, 1) := by decide +kernel
theorem dL_law_571 : decode cL_law 571 = .ok (.iadd, 1) := by decide +kernel
theorem dL_law_572 : decode cL_law 572 = .ok (.iaload, 1) := by decide +kernel
theorem dL_law_573 : decode cL_law 573 = .ok (.aload_n 0, 1) := by decide +kernel
theorem dL_law_574 : decode cL_law 574 = .ok (.iload_n 3, 1) := by decide +kernel
theorem dL_law_575 : decode cL_law 575 = .ok (.iconst 2, 1) := by decide +kernel
theorem dL_law_576 : decode cL_law 576 = .ok (.iadd, 1) := by decide +kernel
theorem dL_law_577 : decode cL_law 577 = .ok (.iaload, 1) := by decide +kernel
theorem dL_law_578 : decode cL_law 578 = .ok (.aload_n 0, 1) := by decide +kernel
theorem dL_law_579 : decode cL_law 579 = .ok (.iload_n 3, 1) := by decide +kernel
theorem dL_law_580 : decode cL_law 580 = .ok (.iconst 3, 1) := by decide +kernel
theorem dL_law_581 : decode cL_law 581 = .ok (.iadd, 1) := by decide +kernel
theorem dL_law_582 : decode cL_law 582 = .ok (.iaload, 1) := by decide +kernel
theorem dL_law_583 : decode cL_law 583 = .ok (.invokevirtual 69, 3) := by decide +kernel
theorem dL_law_586 : decode cL_law 586 = .ok (.if_icmp .eq 349, 3) := by decide +kernel
theorem dL_law_589 : decode cL_law 589 = .ok (.iconst 0, 1) := by decide +kernel
theorem dL_law_590 : decode cL_law 590 = .ok (.ireturn, 1) := by decide +kernel
theorem dL_law_591 : decode cL_law 591 = .ok (.aload_n 1, 1) := by decide +kernel
theorem dL_law_592 : decode cL_law 592 = .ok (.aload_n 0, 1) := by decide +kernel
theorem dL_law_593 : decode cL_law 593 = .ok (.iload_n 3, 1) := by decide +kernel
theorem dL_law_594 : decode cL_law 594 = .ok (.iconst 1, 1) := by decide +kernel
theorem dL_law_595 : decode cL_law 595 = .ok (.iadd, 1) := by decide +kernel
theorem dL_law_596 : decode cL_law 596 = .ok (.iaload, 1) := by decide +kernel
theorem dL_law_597 : decode cL_law 597 = .ok (.aload_n 0, 1) := by decide +kernel
theorem dL_law_598 : decode cL_law 598 = .ok (.iload_n 3, 1) := by decide +kernel
theorem dL_law_599 : decode cL_law 599 = .ok (.iconst 2, 1) := by decide +kernel
theorem dL_law_600 : decode cL_law 600 = .ok (.iadd, 1) := by decide +kernel
theorem dL_law_601 : decode cL_law 601 = .ok (.iaload, 1) := by decide +kernel
theorem dL_law_602 : decode cL_law 602 = .ok (.invokevirtual 70, 3) := by decide +kernel
theorem dL_law_605 : decode cL_law 605 = .ok (.aload_n 2, 1) := by decide +kernel
theorem dL_law_606 : decode cL_law 606 = .ok (.aload_n 0, 1) := by decide +kernel
theorem dL_law_607 : decode cL_law 607 = .ok (.iload_n 3, 1) := by decide +kernel
theorem dL_law_608 : decode cL_law 608 = .ok (.iconst 1, 1) := by decide +kernel
theorem dL_law_609 : decode cL_law 609 = .ok (.iadd, 1) := by decide +kernel
theorem dL_law_610 : decode cL_law 610 = .ok (.iaload, 1) := by decide +kernel
theorem dL_law_611 : decode cL_law 611 = .ok (.aload_n 0, 1) := by decide +kernel
theorem dL_law_612 : decode cL_law 612 = .ok (.iload_n 3, 1) := by decide +kernel
theorem dL_law_613 : decode cL_law 613 = .ok (.iconst 2, 1) := by decide +kernel
theorem dL_law_614 : decode cL_law 614 = .ok (.iadd, 1) := by decide +kernel
theorem dL_law_615 : decode cL_law 615 = .ok (.iaload, 1) := by decide +kernel
theorem dL_law_616 : decode cL_law 616 = .ok (.invokevirtual 73, 3) := by decide +kernel
theorem dL_law_619 : decode cL_law 619 = .ok (.if_icmp .eq 316, 3) := by decide +kernel
theorem dL_law_622 : decode cL_law 622 = .ok (.iconst 0, 1) := by decide +kernel
theorem dL_law_623 : decode cL_law 623 = .ok (.ireturn, 1) := by decide +kernel
theorem dL_law_624 : decode cL_law 624 = .ok (.aload_n 1, 1) := by decide +kernel
theorem dL_law_625 : decode cL_law 625 = .ok (.aload_n 0, 1) := by decide +kernel
theorem dL_law_626 : decode cL_law 626 = .ok (.iload_n 3, 1) := by decide +kernel
theorem dL_law_627 : decode cL_law 627 = .ok (.iconst 1, 1) := by decide +kernel
theorem dL_law_628 : decode cL_law 628 = .ok (.iadd, 1) := by decide +kernel
theorem dL_law_629 : decode cL_law 629 = .ok (.iaload, 1) := by decide +kernel
theorem dL_law_630 : decode cL_law 630 = .ok (.invokevirtual 74, 3) := by decide +kernel
theorem dL_law_633 : decode cL_law 633 = .ok (.aload_n 2, 1) := by decide +kernel
theorem dL_law_634 : decode cL_law 634 = .ok (.aload_n 0, 1) := by decide +kernel
theorem dL_law_635 : decode cL_law 635 = .ok (.iload_n 3, 1) := by decide +kernel
theorem dL_law_636 : decode cL_law 636 = .ok (.iconst 1, 1) := by decide +kernel
theorem dL_law_637 : decode cL_law 637 = .ok (.iadd, 1) := by decide +kernel
theorem dL_law_638 : decode cL_law 638 = .ok (.iaload, 1) := by decide +kernel
theorem dL_law_639 : decode cL_law 639 = .ok (.invokevirtual 77, 3) := by decide +kernel
theorem dL_law_642 : decode cL_law 642 = .ok (.if_icmp .eq 293, 3) := by decide +kernel
theorem dL_law_645 : decode cL_law 645 = .ok (.iconst 0, 1) := by decide +kernel
theorem dL_law_646 : decode cL_law 646 = .ok (.ireturn, 1) := by decide +kernel
theorem dL_law_647 : decode cL_law 647 = .ok (.aload_n 1, 1) := by decide +kernel
theorem dL_law_648 : decode cL_law 648 = .ok (.invokevirtual 78, 3) := by decide +kernel
theorem dL_law_651 : decode cL_law 651 = .ok (.aload_n 2, 1) := by decide +kernel
theorem dL_law_652 : decode cL_law 652 = .ok (.invokevirtual 81, 3) := by decide +kernel
theorem dL_law_655 : decode cL_law 655 = .ok (.if_icmp .eq 280, 3) := by decide +kernel
theorem dL_law_658 : decode cL_law 658 = .ok (.iconst 0, 1) := by decide +kernel
theorem dL_law_659 : decode cL_law 659 = .ok (.ireturn, 1) := by decide +kernel
theorem dL_law_660 : decode cL_law 660 = .ok (.aload_n 1, 1) := by decide +kernel
theorem dL_law_661 : decode cL_law 661 = .ok (.aload_n 0, 1) := by decide +kernel
theorem dL_law_662 : decode cL_law 662 = .ok (.iload_n 3, 1) := by decide +kernel
theorem dL_law_663 : decode cL_law 663 = .ok (.iconst 1, 1) := by decide +kernel
theorem dL_law_664 : decode cL_law 664 = .ok (.iadd, 1) := by decide +kernel
theorem dL_law_665 : decode cL_law 665 = .ok (.iaload, 1) := by decide +kernel
theorem dL_law_666 : decode cL_law 666 = .ok (.invokevirtual 82, 3) := by decide +kernel
theorem dL_law_669 : decode cL_law 669 = .ok (.aload_n 2, 1) := by decide +kernel
theorem dL_law_670 : decode cL_law 670 = .ok (.aload_n 0, 1) := by decide +kernel
theorem dL_law_671 : decode cL_law 671 = .ok (.iload_n 3, 1) := by decide +kernel
theorem dL_law_672 : decode cL_law 672 = .ok (.iconst 1, 1) := by decide +kernel
theorem dL_law_673 : decode cL_law 673 = .ok (.iadd, 1) := by decide +kernel
theorem dL_law_674 : decode cL_law 674 = .ok (.iaload, 1) := by decide +kernel
theorem dL_law_675 : decode cL_law 675 = .ok (.invokevirtual 85, 3) := by decide +kernel
theorem dL_law_678 : decode cL_law 678 = .ok (.if_icmp .eq 257, 3) := by decide +kernel
theorem dL_law_681 : decode cL_law 681 = .ok (.iconst 0, 1) := by decide +kernel
theorem dL_law_682 : decode cL_law 682 = .ok (.ireturn, 1) := by decide +kernel
theorem dL_law_683 : decode cL_law 683 = .ok (.aload_n 1, 1) := by decide +kernel
theorem dL_law_684 : decode cL_law 684 = .ok (.invokevirtual 86, 3) := by decide +kernel
theorem dL_law_687 : decode cL_law 687 = .ok (.aload_n 2, 1) := by decide +kernel
theorem dL_law_688 : decode cL_law 688 = .ok (.invokevirtual 89, 3) := by decide +kernel
theorem dL_law_691 : decode cL_law 691 = .ok (.if_icmp .eq 244, 3) := by decide +kernel
theorem dL_law_694 : decode cL_law 694 = .ok (.iconst 0, 1) := by decide +kernel
theorem dL_law_695 : decode cL_law 695 = .ok (.ireturn, 1) := by decide +kernel
theorem dL_law_696 : decode cL_law 696 = .ok (.aload_n 1, 1) := by decide +kernel
theorem dL_law_697 : decode cL_law 697 = .ok (.aload_n 0, 1) := by decide +kernel
theorem dL_law_698 : decode cL_law 698 = .ok (.iload_n 3, 1) := by decide +kernel
theorem dL_law_699 : decode cL_law 699 = .ok (.iconst 1, 1) := by decide +kernel
theorem dL_law_700 : decode cL_law 700 = .ok (.iadd, 1) := by decide +kernel
theorem dL_law_701 : decode cL_law 701 = .ok (.iaload, 1) := by decide +kernel
theorem dL_law_702 : decode cL_law 702 = .ok (.aload_n 0, 1) := by decide +kernel
theorem dL_law_703 : decode cL_law 703 = .ok (.iload_n 3, 1) := by decide +kernel
theorem dL_law_704 : decode cL_law 704 = .ok (.iconst 2, 1) := by decide +kernel
theorem dL_law_705 : decode cL_law 705 = .ok (.iadd, 1) := by decide +kernel
theorem dL_law_706 : decode cL_law 706 = .ok (.iaload, 1) := by decide +kernel
theorem dL_law_707 : decode cL_law 707 = .ok (.invokevirtual 90, 3) := by decide +kernel
theorem dL_law_710 : decode cL_law 710 = .ok (.aload_n 2, 1) := by decide +kernel
theorem dL_law_711 : decode cL_law 711 = .ok (.aload_n 0, 1) := by decide +kernel
theorem dL_law_712 : decode cL_law 712 = .ok (.iload_n 3, 1) := by decide +kernel
theorem dL_law_713 : decode cL_law 713 = .ok (.iconst 1, 1) := by decide +kernel
theorem dL_law_714 : decode cL_law 714 = .ok (.iadd, 1) := by decide +kernel
theorem dL_law_715 : decode cL_law 715 = .ok (.iaload, 1) := by decide +kernel
theorem dL_law_716 : decode cL_law 716 = .ok (.aload_n 0, 1) := by decide +kernel
theorem dL_law_717 : decode cL_law 717 = .ok (.iload_n 3, 1) := by decide +kernel
theorem dL_law_718 : decode cL_law 718 = .ok (.iconst 2, 1) := by decide +kernel
theorem dL_law_719 : decode cL_law 719 = .ok (.iadd, 1) := by decide +kernel
theorem dL_law_720 : decode cL_law 720 = .ok (.iaload, 1) := by decide +kernel
theorem dL_law_721 : decode cL_law 721 = .ok (.invokevirtual 93, 3) := by decide +kernel
theorem dL_law_724 : decode cL_law 724 = .ok (.if_icmp .eq 211, 3) := by decide +kernel
theorem dL_law_727 : decode cL_law 727 = .ok (.iconst 0, 1) := by decide +kernel
theorem dL_law_728 : decode cL_law 728 = .ok (.ireturn, 1) := by decide +kernel
theorem dL_law_729 : decode cL_law 729 = .ok (.aload_n 1, 1) := by decide +kernel
theorem dL_law_730 : decode cL_law 730 = .ok (.aload_n 0, 1) := by decide +kernel
theorem dL_law_731 : decode cL_law 731 = .ok (.iload_n 3, 1) := by decide +kernel
theorem dL_law_732 : decode cL_law 732 = .ok (.iconst 1, 1) := by decide +kernel
theorem dL_law_733 : decode cL_law 733 = .ok (.iadd, 1) := by decide +kernel
theorem dL_law_734 : decode cL_law 734 = .ok (.iaload, 1) := by decide +kernel
theorem dL_law_735 : decode cL_law 735 = .ok (.invokevirtual 94, 3) := by decide +kernel
theorem dL_law_738 : decode cL_law 738 = .ok (.aload_n 2, 1) := by decide +kernel
theorem dL_law_739 : decode cL_law 739 = .ok (.aload_n 0, 1) := by decide +kernel
theorem dL_law_740 : decode cL_law 740 = .ok (.iload_n 3, 1) := by decide +kernel
theorem dL_law_741 : decode cL_law 741 = .ok (.iconst 1, 1) := by decide +kernel
theorem dL_law_742 : decode cL_law 742 = .ok (.iadd, 1) := by decide +kernel
theorem dL_law_743 : decode cL_law 743 = .ok (.iaload, 1) := by decide +kernel
theorem dL_law_744 : decode cL_law 744 = .ok (.invokevirtual 97, 3) := by decide +kernel
theorem dL_law_747 : decode cL_law 747 = .ok (.if_icmp .eq 188, 3) := by decide +kernel
theorem dL_law_750 : decode cL_law 750 = .ok (.iconst 0, 1) := by decide +kernel
theorem dL_law_751 : decode cL_law 751 = .ok (.ireturn, 1) := by decide +kernel
theorem dL_law_752 : decode cL_law 752 = .ok (.aload_n 1, 1) := by decide +kernel
theorem dL_law_753 : decode cL_law 753 = .ok (.aload_n 0, 1) := by decide +kernel
theorem dL_law_754 : decode cL_law 754 = .ok (.iload_n 3, 1) := by decide +kernel
theorem dL_law_755 : decode cL_law 755 = .ok (.iconst 1, 1) := by decide +kernel
theorem dL_law_756 : decode cL_law 756 = .ok (.iadd, 1) := by decide +kernel
theorem dL_law_757 : decode cL_law 757 = .ok (.iaload, 1) := by decide +kernel
theorem dL_law_758 : decode cL_law 758 = .ok (.invokevirtual 98, 3) := by decide +kernel
theorem dL_law_761 : decode cL_law 761 = .ok (.aload_n 2, 1) := by decide +kernel
theorem dL_law_762 : decode cL_law 762 = .ok (.aload_n 0, 1) := by decide +kernel
theorem dL_law_763 : decode cL_law 763 = .ok (.iload_n 3, 1) := by decide +kernel
theorem dL_law_764 : decode cL_law 764 = .ok (.iconst 1, 1) := by decide +kernel
theorem dL_law_765 : decode cL_law 765 = .ok (.iadd, 1) := by decide +kernel
theorem dL_law_766 : decode cL_law 766 = .ok (.iaload, 1) := by decide +kernel
theorem dL_law_767 : decode cL_law 767 = .ok (.invokevirtual 101, 3) := by decide +kernel
theorem dL_law_770 : decode cL_law 770 = .ok (.if_icmp .eq 165, 3) := by decide +kernel
theorem dL_law_773 : decode cL_law 773 = .ok (.iconst 0, 1) := by decide +kernel
theorem dL_law_774 : decode cL_law 774 = .ok (.ireturn, 1) := by decide +kernel
theorem dL_law_775 : decode cL_law 775 = .ok (.aload_n 1, 1) := by decide +kernel
theorem dL_law_776 : decode cL_law 776 = .ok (.aload_n 0, 1) := by decide +kernel
theorem dL_law_777 : decode cL_law 777 = .ok (.iload_n 3, 1) := by decide +kernel
theorem dL_law_778 : decode cL_law 778 = .ok (.iconst 1, 1) := by decide +kernel
theorem dL_law_779 : decode cL_law 779 = .ok (.iadd, 1) := by decide +kernel
theorem dL_law_780 : decode cL_law 780 = .ok (.iaload, 1) := by decide +kernel
theorem dL_law_781 : decode cL_law 781 = .ok (.invokevirtual 102, 3) := by decide +kernel
theorem dL_law_784 : decode cL_law 784 = .ok (.aload_n 2, 1) := by decide +kernel
theorem dL_law_785 : decode cL_law 785 = .ok (.aload_n 0, 1) := by decide +kernel
theorem dL_law_786 : decode cL_law 786 = .ok (.iload_n 3, 1) := by decide +kernel
theorem dL_law_787 : decode cL_law 787 = .ok (.iconst 1, 1) := by decide +kernel
theorem dL_law_788 : decode cL_law 788 = .ok (.iadd, 1) := by decide +kernel
theorem dL_law_789 : decode cL_law 789 = .ok (.iaload, 1) := by decide +kernel
theorem dL_law_790 : decode cL_law 790 = .ok (.invokevirtual 105, 3) := by decide +kernel
theorem dL_law_793 : decode cL_law 793 = .ok (.if_icmp .eq 142, 3) := by decide +kernel
theorem dL_law_796 : decode cL_law 796 = .ok (.iconst 0, 1) := by decide +kernel
theorem dL_law_797 : decode cL_law 797 = .ok (.ireturn, 1) := by decide +kernel
theorem dL_law_798 : decode cL_law 798 = .ok (.aload_n 1, 1) := by decide +kernel
theorem dL_law_799 : decode cL_law 799 = .ok (.invokevirtual 106, 3) := by decide +kernel
theorem dL_law_802 : decode cL_law 802 = .ok (.aload_n 2, 1) := by decide +kernel
theorem dL_law_803 : decode cL_law 803 = .ok (.invokevirtual 109, 3) := by decide +kernel
theorem dL_law_806 : decode cL_law 806 = .ok (.if_icmp .eq 129, 3) := by decide +kernel
theorem dL_law_809 : decode cL_law 809 = .ok (.iconst 0, 1) := by decide +kernel
theorem dL_law_810 : decode cL_law 810 = .ok (.ireturn, 1) := by decide +kernel
theorem dL_law_811 : decode cL_law 811 = .ok (.aload_n 1, 1) := by decide +kernel
theorem dL_law_812 : decode cL_law 812 = .ok (.aload_n 0, 1) := by decide +kernel
theorem dL_law_813 : decode cL_law 813 = .ok (.iload_n 3, 1) := by decide +kernel
theorem dL_law_814 : decode cL_law 814 = .ok (.iconst 1, 1) := by decide +kernel
theorem dL_law_815 : decode cL_law 815 = .ok (.iadd, 1) := by decide +kernel
theorem dL_law_816 : decode cL_law 816 = .ok (.iaload, 1) := by decide +kernel
theorem dL_law_817 : decode cL_law 817 = .ok (.invokevirtual 110, 3) := by decide +kernel
theorem dL_law_820 : decode cL_law 820 = .ok (.aload_n 2, 1) := by decide +kernel
theorem dL_law_821 : decode cL_law 821 = .ok (.aload_n 0, 1) := by decide +kernel
theorem dL_law_822 : decode cL_law 822 = .ok (.iload_n 3, 1) := by decide +kernel
theorem dL_law_823 : decode cL_law 823 = .ok (.iconst 1, 1) := by decide +kernel
theorem dL_law_824 : decode cL_law 824 = .ok (.iadd, 1) := by decide +kernel
theorem dL_law_825 : decode cL_law 825 = .ok (.iaload, 1) := by decide +kernel
theorem dL_law_826 : decode cL_law 826 = .ok (.invokevirtual 113, 3) := by decide +kernel
theorem dL_law_829 : decode cL_law 829 = .ok (.if_icmp .eq 106, 3) := by decide +kernel
theorem dL_law_832 : decode cL_law 832 = .ok (.iconst 0, 1) := by decide +kernel
theorem dL_law_833 : decode cL_law 833 = .ok (.ireturn, 1) := by decide +kernel
theorem dL_law_834 : decode cL_law 834 = .ok (.aload_n 1, 1) := by decide +kernel
theorem dL_law_835 : decode cL_law 835 = .ok (.aload_n 0, 1) := by decide +kernel
theorem dL_law_836 : decode cL_law 836 = .ok (.iload_n 3, 1) := by decide +kernel
theorem dL_law_837 : decode cL_law 837 = .ok (.iconst 1, 1) := by decide +kernel
theorem dL_law_838 : decode cL_law 838 = .ok (.iadd, 1) := by decide +kernel
theorem dL_law_839 : decode cL_law 839 = .ok (.iaload, 1) := by decide +kernel
theorem dL_law_840 : decode cL_law 840 = .ok (.invokevirtual 114, 3) := by decide +kernel
theorem dL_law_843 : decode cL_law 843 = .ok (.aload_n 2, 1) := by decide +kernel
theorem dL_law_844 : decode cL_law 844 = .ok (.aload_n 0, 1) := by decide +kernel
theorem dL_law_845 : decode cL_law 845 = .ok (.iload_n 3, 1) := by decide +kernel
theorem dL_law_846 : decode cL_law 846 = .ok (.iconst 1, 1) := by decide +kernel
theorem dL_law_847 : decode cL_law 847 = .ok (.iadd, 1) := by decide +kernel
theorem dL_law_848 : decode cL_law 848 = .ok (.iaload, 1) := by decide +kernel
theorem dL_law_849 : decode cL_law 849 = .ok (.invokevirtual 117, 3) := by decide +kernel
theorem dL_law_852 : decode cL_law 852 = .ok (.if_icmp .eq 83, 3) := by decide +kernel
theorem dL_law_855 : decode cL_law 855 = .ok (.iconst 0, 1) := by decide +kernel
theorem dL_law_856 : decode cL_law 856 = .ok (.ireturn, 1) := by decide +kernel
theorem dL_law_857 : decode cL_law 857 = .ok (.aload_n 1, 1) := by decide +kernel
theorem dL_law_858 : decode cL_law 858 = .ok (.invokevirtual 118, 3) := by decide +kernel
theorem dL_law_861 : decode cL_law 861 = .ok (.aload_n 2, 1) := by decide +kernel
theorem dL_law_862 : decode cL_law 862 = .ok (.invokevirtual 121, 3) := by decide +kernel
theorem dL_law_865 : decode cL_law 865 = .ok (.if_icmp .eq 70, 3) := by decide +kernel
theorem dL_law_868 : decode cL_law 868 = .ok (.iconst 0, 1) := by decide +kernel
theorem dL_law_869 : decode cL_law 869 = .ok (.ireturn, 1) := by decide +kernel
theorem dL_law_870 : decode cL_law 870 = .ok (.aload_n 1, 1) := by decide +kernel
theorem dL_law_871 : decode cL_law 871 = .ok (.invokevirtual 122, 3) := by decide +kernel
theorem dL_law_874 : decode cL_law 874 = .ok (.aload_n 2, 1) := by decide +kernel
theorem dL_law_875 : decode cL_law 875 = .ok (.invokevirtual 125, 3) := by decide +kernel
theorem dL_law_878 : decode cL_law 878 = .ok (.if_icmp .eq 57, 3) := by decide +kernel
theorem dL_law_881 : decode cL_law 881 = .ok (.iconst 0, 1) := by decide +kernel
theorem dL_law_882 : decode cL_law 882 = .ok (.ireturn, 1) := by decide +kernel
theorem dL_law_883 : decode cL_law 883 = .ok (.aload_n 1, 1) := by decide +kernel
theorem dL_law_884 : decode cL_law 884 = .ok (.invokevirtual 126, 3) := by decide +kernel
theorem dL_law_887 : decode cL_law 887 = .ok (.aload_n 2, 1) := by decide +kernel
theorem dL_law_888 : decode cL_law 888 = .ok (.invokevirtual 129, 3) := by decide +kernel
theorem dL_law_891 : decode cL_law 891 = .ok (.if_icmp .eq 44, 3) := by decide +kernel
theorem dL_law_894 : decode cL_law 894 = .ok (.iconst 0, 1) := by decide +kernel
theorem dL_law_895 : decode cL_law 895 = .ok (.ireturn, 1) := by decide +kernel
theorem dL_law_896 : decode cL_law 896 = .ok (.aload_n 1, 1) := by decide +kernel
theorem dL_law_897 : decode cL_law 897 = .ok (.invokevirtual 130, 3) := by decide +kernel
theorem dL_law_900 : decode cL_law 900 = .ok (.aload_n 2, 1) := by decide +kernel
theorem dL_law_901 : decode cL_law 901 = .ok (.invokevirtual 133, 3) := by decide +kernel
theorem dL_law_904 : decode cL_law 904 = .ok (.if_icmp .eq 31, 3) := by decide +kernel
theorem dL_law_907 : decode cL_law 907 = .ok (.iconst 0, 1) := by decide +kernel
theorem dL_law_908 : decode cL_law 908 = .ok (.ireturn, 1) := by decide +kernel
theorem dL_law_909 : decode cL_law 909 = .ok (.aload_n 1, 1) := by decide +kernel
theorem dL_law_910 : decode cL_law 910 = .ok (.invokevirtual 134, 3) := by decide +kernel
theorem dL_law_913 : decode cL_law 913 = .ok (.aload_n 2, 1) := by decide +kernel
theorem dL_law_914 : decode cL_law 914 = .ok (.invokevirtual 137, 3) := by decide +kernel
theorem dL_law_917 : decode cL_law 917 = .ok (.if_icmp .eq 18, 3) := by decide +kernel
theorem dL_law_920 : decode cL_law 920 = .ok (.iconst 0, 1) := by decide +kernel
theorem dL_law_921 : decode cL_law 921 = .ok (.ireturn, 1) := by decide +kernel
theorem dL_law_922 : decode cL_law 922 = .ok (.aload_n 1, 1) := by decide +kernel
theorem dL_law_923 : decode cL_law 923 = .ok (.invokevirtual 138, 3) := by decide +kernel
theorem dL_law_926 : decode cL_law 926 = .ok (.aload_n 2, 1) := by decide +kernel
theorem dL_law_927 : decode cL_law 927 = .ok (.invokevirtual 141, 3) := by decide +kernel
theorem dL_law_930 : decode cL_law 930 = .ok (.if_icmp .eq 5, 3) := by decide +kernel
theorem dL_law_933 : decode cL_law 933 = .ok (.iconst 0, 1) := by decide +kernel
theorem dL_law_934 : decode cL_law 934 = .ok (.ireturn, 1) := by decide +kernel
theorem dL_law_935 : decode cL_law 935 = .ok (.iinc 3 5, 3) := by decide +kernel
theorem dL_law_938 : decode cL_law 938 = .ok (.goto (-920), 3) := by decide +kernel
theorem dL_law_941 : decode cL_law 941 = .ok (.iconst 1, 1) := by decide +kernel
theorem dL_law_942 : decode cL_law 942 = .ok (.ireturn, 1) := by decide +kernel
end
section
/-! The one world of all runs: 118 cells at fixed addresses, whose ints are a matrix V (cell, place). Every method's contract speaks of V alone. -/
abbrev Wd : Type := Nat → Nat → Int32
abbrev Gm : Type := (Nat → Nat) × va_G × ClassId × ClassId × ClassId
def AD (G : Gm) (k : Nat) : Nat := G.1 k
def tysG (G : Gm) : List (ClassId × FieldType) := [(G.2.2.1, .int), (G.2.2.2.1, .char), (G.2.2.2.2, .object "MastFlags$State")]
/-- the kinds of the cells: 0 MastFlags, 1 State, 2 FlagLocker, 3 Hoists, 4 Book, 5 MessageLog, 6 History, 7 Text, 8 Reading, 9 MastFlagsModel, 1000 + n a row of n ints, 2050 the row of chars, 3000 the row of states -/
def kdS : List Nat := [1, 2, 1010, 1010, 1010, 3, 1020, 1005, 4, 1012, 1012, 5, 1040, 1008]
def kdL : List Nat := [0] ++ kdS ++ kdS ++ [6, 3000] ++ kdS ++ kdS ++ kdS ++ kdS ++ kdS ++ [7, 1050, 3, 1020, 1005] ++ [8, 1005, 1005] ++ [8, 1005, 1005] ++ [9, 1136, 1680, 1136, 2050, 1025]
def kd (k : Nat) : Nat := kdL.getD k 99
def wEk (G : Gm) (kind k : Nat) (f : Nat → Int32) : va_E :=
  match kind with
  | 0 => .inr (8, [.ref (AD G 1), .ref (AD G 15), .int (f 2), .ref (AD G 29), .ref (AD G 101), .ref (AD G 106), .ref (AD G 109)])
  | 1 => .inr (6, [.ref (AD G (k + 1)), .ref (AD G (k + 5)), .ref (AD G (k + 8)), .ref (AD G (k + 11)), .int (f 4), .int (f 5), .int (f 6), .int (f 7), .int (f 8)])
  | 2 => .inr (1, [.ref (AD G (k + 1)), .ref (AD G (k + 2)), .ref (AD G (k + 3))])
  | 3 => .inr (3, [.ref (AD G (k + 1)), .ref (AD G (k + 2))])
  | 4 => .inr (0, [.ref (AD G (k + 1)), .ref (AD G (k + 2)), .int (f 2)])
  | 5 => .inr (4, [.ref (AD G (k + 1)), .ref (AD G (k + 2)), .int (f 2), .int (f 3)])
  | 6 => .inr (2, [.ref (AD G (k + 1)), .int (f 1), .int (f 2)])
  | 7 => .inr (7, [.ref (AD G (k + 1)), .int (f 1), .ref (AD G (k + 2)), .int (f 3), .int (f 4)])
  | 8 => .inr (5, [.int (f 0), .ref (AD G (k + 1)), .ref (AD G (k + 2)), .int (f 3)])
  | 9 => .inr (9, [.ref (AD G (k + 1)), .ref (AD G (k + 2)), .int (f 2), .ref (AD G (k + 3)), .int (f 4), .ref (AD G (k + 4)), .int (f 6), .ref (AD G (k + 5)), .int (f 8), .int (f 9), .int (f 10)])
  | 2050 => .inl (G.2.2.2.1, (50, .inl f))
  | 3000 => .inl (G.2.2.2.2, (5, .inr (.inr (.inr (.inr (fun j => some (AD G (k + 1 + 14 * j))))))))
  | n => .inl (G.2.2.1, (n - 1000, .inl f))
def wE (G : Gm) (k : Nat) (f : Nat → Int32) : va_E := wEk G (kd k) k f
theorem kd_lt {k K : Nat} (h : kd k = K) (hK : K ≠ 99) : k < 118 := by
  rcases Nat.lt_or_ge k 118 with q | q
  · exact q
  · exfalso
    apply hK
    rw [← h]
    unfold kd
    rw [List.getD_eq_getElem?_getD, List.getElem?_eq_none (by simpa [kdL, kdS] using q)]
    rfl
def wl (G : Gm) (V : Wd) : va_W := (List.range 118).map fun k => (AD G k, wE G k (V k))
theorem wl_get {G : Gm} {V : Wd} {k : Nat} (h : k < 118) : (wl G V)[k]? = some (AD G k, wE G k (V k)) := by
  unfold wl
  rw [List.getElem?_map, List.getElem?_range h]
  rfl
theorem wl_len (G : Gm) (V : Wd) : (wl G V).length = 118 := by unfold wl; rw [List.length_map, List.length_range]
def u2 (V : Wd) (k j : Nat) (x : Int32) : Wd := fun a => if a = k then upd (V k) j x else V a
def uf (V : Wd) (k : Nat) (f : Nat → Int32) : Wd := fun a => if a = k then f else V a
theorem u2_uf (V : Wd) (k j : Nat) (x : Int32) : u2 V k j x = uf V k (upd (V k) j x) := rfl
def cp2 (V : Wd) (k0 k1 sp dp n : Nat) : Wd := uf V k1 (va_cpy (V k0) (V k1) sp dp n)
theorem wl_set {G : Gm} {V : Wd} {k : Nat} {f : Nat → Int32} (h : k < 118) : (wl G V).set k (AD G k, wE G k f) = wl G (uf V k f) := by
  apply List.ext_getElem?
  intro i
  rcases Nat.lt_or_ge i 118 with q | q
  · rw [wl_get q]
    by_cases e : k = i
    · subst e
      rw [List.getElem?_set_self (by rw [wl_len]; exact h)]
      simp [uf]
    · rw [List.getElem?_set_ne e, wl_get q]
      have e2 : ¬ i = k := fun z => e z.symm
      simp [uf, e2]
  · rw [List.getElem?_eq_none (by rw [List.length_set, wl_len]; exact q), List.getElem?_eq_none (by rw [wl_len]; exact q)]
def Hp (G : Gm) (V : Wd) (H : Heap) : Prop := va_P G.2.1 vwCl (wl G V) H
def inj (G : Gm) : Prop := ∀ i j, i < 118 → j < 118 → AD G i = AD G j → i = j
def AG (G : Gm) : Nat → Prop := fun q => ∃ k, k < 118 ∧ q = AD G k
theorem wl_D {G : Gm} {A : Nat → Prop} (V : Wd) (h : inj G) (hA : ∀ k, k < 118 → A (AD G k)) : va_D A (wl G V) := by
  have key : ∀ (k : Nat) (q : Nat × va_E), (wl G V)[k]? = some q → k < 118 ∧ q.1 = AD G k := by
    intro k q hk
    have hl : k < 118 := by rw [← wl_len G V]; exact (List.getElem?_eq_some_iff.mp hk).1
    rw [wl_get hl] at hk
    cases hk
    exact ⟨hl, rfl⟩
  refine ⟨fun i j p q hi hj e => ?_, fun k q hk => ?_⟩
  · obtain ⟨h1, e1⟩ := key i p hi
    obtain ⟨h2, e2⟩ := key j q hj
    exact h i j h1 h2 (by rw [← e1, ← e2]; exact e)
  · obtain ⟨h1, e1⟩ := key k q hk
    rw [e1]
    exact hA k h1
def Kn (G : Gm) (U : State) : Prop := va_K G.2.1 vwCl (tysG G) U ∧ ∀ w ∈ nws, va_Nw w U
theorem nws_nest : ∀ w ∈ nws, ∃ a i x h, w = Cond.methodLinkNest a i x h := by
  intro w hw
  simp only [nws, List.mem_cons, List.not_mem_nil, or_false] at hw
  rcases hw with h | h | h | h | h | h | h | h | h | h | h | h <;> subst h <;> exact ⟨_, _, _, _, rfl⟩
theorem Kn.warm {G : Gm} {s U : State} (hW : s.WarmedH U.vm) (h : Kn G s) : Kn G U := by
  refine ⟨va_K.moved hW.alike h.1, fun w hw => ?_⟩
  obtain ⟨a, i, x, o, e⟩ := nws_nest w hw
  have h1 := h.2 w hw
  subst e
  exact va_Nw.warmM hW h1
theorem Kn.same {G : Gm} {s U : State} (e : s.vm = U.vm) (h : Kn G s) : Kn G U := by
  refine ⟨va_K.moved (by rw [e]; exact Vm.Alike.refl U.vm) h.1, fun w hw => ?_⟩
  obtain ⟨a, i, x, o, ew⟩ := nws_nest w hw
  have h1 := h.2 w hw
  subst ew
  exact va_Nw.same rfl e h1
def Pg (G : Gm) (av : List Value) (V : Wd) : Array Value → State → Prop := fun v U => v = av.toArray ∧ Hp G V U.heap ∧ Kn G U ∧ inj G
theorem Pg.blind {G : Gm} {av : List Value} {V : Wd} : FrameBlind (Pg G av V) := fun a U g mk h => ⟨h.1, h.2.1, Kn.same (s := U) rfl h.2.2.1, h.2.2.2⟩
def Qg (G : Gm) (rv : Option Value) (V : Wd) : Array Value → State → Outcome → State → Prop := fun _ st o t => o = .returned rv ∧ Hp G V t.heap ∧ va_F (AG G) st t
/-- a method's contract: from the world V with these arguments it returns rv, the world is V1 then -/
def Ct (l : Launch) (G : Gm) (y : MethodName) (b : ByteArray) (n : Nat) (ret : Option FieldType) (fr lo : Nat) (av : List Value) (V : Wd) (rv : Option Value) (V1 : Wd) : Prop :=
  Met l y (.code y b n ret :: bw) { frames := fr, cells := 0, slots := 0, locals := lo } (Pg G av V) (Qg G rv V1) 0 0 (AG G)
abbrev En : Type := Program × Launch × Env × Room × State × MethodId × Array Value × List Frame × Method × Code
def enL (E : En) : Launch := E.2.1
def Fx (E : En) (G : Gm) (A : Nat → Prop) (own : String) (cc : ByteArray) (nL : Nat) (ret : Option FieldType) (fr lo kc ks : Nat) : Prop :=
  match E with
  | (p, _, _, R, s, m, args, _, meth, c) => p.tables.exec = Jvm.exec ∧ c.code = cc ∧ c.maxLocals = nL ∧ meth.sig.returnType = ret ∧ s.vm.findClass own = some m.cls ∧ (∀ w ∈ bw, w.before args s = true) ∧ meth.locks = false ∧ Kn G s ∧ inj G ∧ (∀ k, k < 118 → A (AD G k)) ∧ fr ≤ R.frames ∧ lo ≤ R.locals ∧ kc ≤ R.cells ∧ ks ≤ R.slots
def Go (E : En) (G : Gm) (A : Nat → Prop) (kc ks : Nat) (Q : State → Prop) (nL : Nat) (V : Wd) (pc : Nat) (lv : List (Nat × Value)) (st : List Value) : Prop :=
  match E with
  | (p, l, e, R, s, m, args, below, meth, c) => ∀ (H : Heap) (locs : List Loc) (ls : Array Slot), Hp G V H → va_S A s.heap H locs → lv_has ls nL lv → W p l e R s m args below meth c H locs kc ks Q (F0 m pc ls st)
def MQq (E : En) (G : Gm) (rv : Option Value) (V : Wd) : State → Prop :=
  match E with
  | (_, _, _, _, s, _, args, below, _, _) => MQ below (Qg G rv V) args s 0 0 (AG G)
def li_ {α β : Type} (a : α) (f : α → β) : β := f a
def rd_ (f : Nat → Int32) (n : Nat) (i : Int32) : Option Int32 := if i < 0 ∨ n ≤ i.toNatClampNeg then none else some (f i.toNatClampNeg)
def FU_ : Nat := 1000
theorem ob_ {α β : Type} {x : Option α} {f : α → Option β} {z : β} (h : x.bind f = some z) : ∃ a, x = some a ∧ f a = some z := by
  cases x with
  | none => cases h
  | some a => exact ⟨a, rfl, h⟩
theorem rd_ok {f : Nat → Int32} {n : Nat} {i x : Int32} (h : rd_ f n i = some x) : vp_in i n ∧ x = f i.toNatClampNeg := by
  unfold rd_ at h
  split at h
  · cases h
  · next q => exact ⟨q, (Option.some.inj h).symm⟩
def refv (G : Gm) (o : Option Nat) : Value := match o with
  | none => .null
  | some k => .ref (AD G k)
section CORE
variable {E : En} {G : Gm} {A : Nat → Prop} {own : String} {cc : ByteArray} {nL fr lo kc ks : Nat} {ret : Option FieldType} {Q : State → Prop} {V : Wd} {pc : Nat} {lv : List (Nat × Value)} {st : List Value}
/-- a method's contract out of its body's walk -/
theorem Ct.of {l : Launch} {y : MethodName} {own : String} {b : ByteArray} {n : Nat} {ret : Option FieldType} {fr lo : Nat} {av : List Value} {V : Wd} {rv : Option Value} {V1 : Wd} (hy : plainName y.cls = true) (hown : y.cls = own)
    (hlv : (lg_sl av).length ≤ n)
    (body : ∀ E : En, Fx E G (AG G) own b n ret fr lo 0 0 → enL E = l → Go E G (AG G) 0 0 (MQq E G rv V1) n V 0 (lv_args 0 av) []) : Ct l G y b n ret fr lo av V rv V1 := by
  refine Met.ofW (cc := b) (maxL := n) (ret := ret) hy rfl ?_
  intro p e s m args below meth c s₁ B hml hv
  obtain ⟨rfl, hP, hK, hI⟩ := hv
  have hts := atoms_spec (ws := .code y b n ret :: bw) B.pre
  have hl := lv_entry av (n := n) hlv
  rw [lg_entry_eq]
  refine body (p, l, e, (headSpec (.code y b n ret :: bw) { frames := fr, cells := 0, slots := 0, locals := lo }).room, s, m, av.toArray, below, meth, c) ⟨B.exec, B.bytes, hml, B.returns, ?_, fun w hw => hts w (List.mem_cons_of_mem _ hw), B.notSynchronized, hK, hI, fun k hk => ⟨k, hk, rfl⟩, Nat.le_refl _, Nat.le_refl _, Nat.le_refl _, Nat.le_refl _⟩ rfl s.heap [] _ hP va_S.rf hl
  rw [← hown]
  exact findClass_of_methodNamed B.named
theorem go_sub {lv' : List (Nat × Value)} (ps : List Nat) (hp : lv_pick lv ps = lv') (kk : Go E G A kc ks Q nL V pc lv' st) : Go E G A kc ks Q nL V pc lv st := by
  obtain ⟨p, l, e, R, s, m, args, below, meth, c⟩ := E
  intro H locs ls hP hS hl
  exact kk H locs ls hP hS (lv_sub hl ps hp)
theorem go_iloadn {k : Fin 4} {x : Int32} (F : Fx E G A own cc nL ret fr lo kc ks) (hd : decode cc pc = .ok (.iload_n k, 1)) (i : Nat) (hl : lv[i]? = some (k.val, .int x)) (kk : Go E G A kc ks Q nL V (pc + 1) lv (.int x :: st)) : Go E G A kc ks Q nL V pc lv st := by
  obtain ⟨p, l, e, R, s, m, args, below, meth, c⟩ := E
  intro H locs ls hP hS hv
  exact lv_iload_n F.1 F.2.1 hd rfl (lv_at hv i hl) (kk H locs ls hP hS hv)
theorem go_iload {k : Nat} {x : Int32} (F : Fx E G A own cc nL ret fr lo kc ks) (hd : decode cc pc = .ok (.iload k, 2)) (i : Nat) (hl : lv[i]? = some (k, .int x)) (kk : Go E G A kc ks Q nL V (pc + 2) lv (.int x :: st)) : Go E G A kc ks Q nL V pc lv st := by
  obtain ⟨p, l, e, R, s, m, args, below, meth, c⟩ := E
  intro H locs ls hP hS hv
  exact lv_iload F.1 F.2.1 hd (lv_at hv i hl) (kk H locs ls hP hS hv)
theorem go_aloadn {k : Fin 4} {x : Nat} (F : Fx E G A own cc nL ret fr lo kc ks) (hd : decode cc pc = .ok (.aload_n k, 1)) (i : Nat) (hl : lv[i]? = some (k.val, .ref x)) (kk : Go E G A kc ks Q nL V (pc + 1) lv (.ref x :: st)) : Go E G A kc ks Q nL V pc lv st := by
  obtain ⟨p, l, e, R, s, m, args, below, meth, c⟩ := E
  intro H locs ls hP hS hv
  exact lv_aload_n F.1 F.2.1 hd rfl (lv_at hv i hl) (kk H locs ls hP hS hv)
theorem go_istoren {k : Fin 4} {x : Int32} {lv' : List (Nat × Value)} (F : Fx E G A own cc nL ret fr lo kc ks) (hd : decode cc pc = .ok (.istore_n k, 1)) (hn : k.val < nL) (hl : (k.val, Value.int x) :: lv.filter (fun q => !(q.1 == k.val) && !(q.1 + 1 == k.val && q.2.category == 2)) = lv') (kk : Go E G A kc ks Q nL V (pc + 1) lv' st) : Go E G A kc ks Q nL V pc lv (.int x :: st) := by
  obtain ⟨p, l, e, R, s, m, args, below, meth, c⟩ := E
  intro H locs ls hP hS hv
  exact lv_istore_n F.1 F.2.1 hd rfl hv hn hl (fun ls' hv' => kk H locs ls' hP hS hv')
theorem go_istore {k : Nat} {x : Int32} {lv' : List (Nat × Value)} (F : Fx E G A own cc nL ret fr lo kc ks) (hd : decode cc pc = .ok (.istore k, 2)) (hn : k < nL) (hl : (k, Value.int x) :: lv.filter (fun q => !(q.1 == k) && !(q.1 + 1 == k && q.2.category == 2)) = lv') (kk : Go E G A kc ks Q nL V (pc + 2) lv' st) : Go E G A kc ks Q nL V pc lv (.int x :: st) := by
  obtain ⟨p, l, e, R, s, m, args, below, meth, c⟩ := E
  intro H locs ls hP hS hv
  exact lv_istore F.1 F.2.1 hd hv hn hl (fun ls' hv' => kk H locs ls' hP hS hv')
theorem go_astoren {k : Fin 4} {x : Nat} {lv' : List (Nat × Value)} (F : Fx E G A own cc nL ret fr lo kc ks) (hd : decode cc pc = .ok (.astore_n k, 1)) (hn : k.val < nL) (hl : (k.val, Value.ref x) :: lv.filter (fun q => !(q.1 == k.val) && !(q.1 + 1 == k.val && q.2.category == 2)) = lv') (kk : Go E G A kc ks Q nL V (pc + 1) lv' st) : Go E G A kc ks Q nL V pc lv (.ref x :: st) := by
  obtain ⟨p, l, e, R, s, m, args, below, meth, c⟩ := E
  intro H locs ls hP hS hv
  exact lv_astore_n F.1 F.2.1 hd rfl hv hn hl (fun ls' hv' => kk H locs ls' hP hS hv')
theorem go_iinc {i k : Nat} {n : Int} {x : Int32} (v : Int32) {lv' : List (Nat × Value)} (F : Fx E G A own cc nL ret fr lo kc ks) (hd : decode cc pc = .ok (.iinc i n, 3)) (hk : lv[k]? = some (i, .int x)) (hv : x + Int32.ofInt n = v) (hn : i < nL) (hl : (i, Value.int v) :: lv.filter (fun q => !(q.1 == i) && !(q.1 + 1 == i && q.2.category == 2)) = lv') (kk : Go E G A kc ks Q nL V (pc + 3) lv' st) : Go E G A kc ks Q nL V pc lv st := by
  obtain ⟨p, l, e, R, s, m, args, below, meth, c⟩ := E
  intro H locs ls hP hS hh
  exact lv_iinc F.1 F.2.1 hd hh hk hv hn hl (fun ls' hv' => kk H locs ls' hP hS hv')
theorem go_iconst {n : Int} (v : Int32) (F : Fx E G A own cc nL ret fr lo kc ks) (hd : decode cc pc = .ok (.iconst n, 1)) (hv : Int32.ofInt n = v) (kk : Go E G A kc ks Q nL V (pc + 1) lv (.int v :: st)) : Go E G A kc ks Q nL V pc lv st := by
  obtain ⟨p, l, e, R, s, m, args, below, meth, c⟩ := E
  intro H locs ls hP hS hh
  exact lv_iconst F.1 F.2.1 hd hv (kk H locs ls hP hS hh)
theorem go_bipush {n : Int} (v : Int32) (F : Fx E G A own cc nL ret fr lo kc ks) (hd : decode cc pc = .ok (.bipush n, 2)) (hv : (Int8.ofInt n).toInt32 = v) (kk : Go E G A kc ks Q nL V (pc + 2) lv (.int v :: st)) : Go E G A kc ks Q nL V pc lv st := by
  obtain ⟨p, l, e, R, s, m, args, below, meth, c⟩ := E
  intro H locs ls hP hS hh
  exact lv_bipush F.1 F.2.1 hd hv (kk H locs ls hP hS hh)
theorem go_sipush {n : Int} (v : Int32) (F : Fx E G A own cc nL ret fr lo kc ks) (hd : decode cc pc = .ok (.sipush n, 3)) (hv : (Int16.ofInt n).toInt32 = v) (kk : Go E G A kc ks Q nL V (pc + 3) lv (.int v :: st)) : Go E G A kc ks Q nL V pc lv st := by
  obtain ⟨p, l, e, R, s, m, args, below, meth, c⟩ := E
  intro H locs ls hP hS hh
  exact lv_sipush F.1 F.2.1 hd hv (kk H locs ls hP hS hh)
theorem go_null (F : Fx E G A own cc nL ret fr lo kc ks) (hd : decode cc pc = .ok (.aconst_null, 1)) (kk : Go E G A kc ks Q nL V (pc + 1) lv (.null :: st)) : Go E G A kc ks Q nL V pc lv st := by
  obtain ⟨p, l, e, R, s, m, args, below, meth, c⟩ := E
  intro H locs ls hP hS hh
  exact lv_null F.1 F.2.1 hd (kk H locs ls hP hS hh)
theorem go_iadd {x y : Int32} (F : Fx E G A own cc nL ret fr lo kc ks) (hd : decode cc pc = .ok (.iadd, 1)) (kk : Go E G A kc ks Q nL V (pc + 1) lv (.int (x + y) :: st)) : Go E G A kc ks Q nL V pc lv (.int y :: .int x :: st) := by
  obtain ⟨p, l, e, R, s, m, args, below, meth, c⟩ := E
  intro H locs ls hP hS hh
  exact lv_iadd F.1 F.2.1 hd (kk H locs ls hP hS hh)
theorem go_isub {x y : Int32} (F : Fx E G A own cc nL ret fr lo kc ks) (hd : decode cc pc = .ok (.isub, 1)) (kk : Go E G A kc ks Q nL V (pc + 1) lv (.int (x - y) :: st)) : Go E G A kc ks Q nL V pc lv (.int y :: .int x :: st) := by
  obtain ⟨p, l, e, R, s, m, args, below, meth, c⟩ := E
  intro H locs ls hP hS hh
  exact lv_isub F.1 F.2.1 hd (kk H locs ls hP hS hh)
theorem go_imul {x y : Int32} (F : Fx E G A own cc nL ret fr lo kc ks) (hd : decode cc pc = .ok (.imul, 1)) (kk : Go E G A kc ks Q nL V (pc + 1) lv (.int (x * y) :: st)) : Go E G A kc ks Q nL V pc lv (.int y :: .int x :: st) := by
  obtain ⟨p, l, e, R, s, m, args, below, meth, c⟩ := E
  intro H locs ls hP hS hh
  exact lv_imul F.1 F.2.1 hd (kk H locs ls hP hS hh)
theorem go_iand {x y : Int32} (F : Fx E G A own cc nL ret fr lo kc ks) (hd : decode cc pc = .ok (.iand, 1)) (kk : Go E G A kc ks Q nL V (pc + 1) lv (.int (x &&& y) :: st)) : Go E G A kc ks Q nL V pc lv (.int y :: .int x :: st) := by
  obtain ⟨p, l, e, R, s, m, args, below, meth, c⟩ := E
  intro H locs ls hP hS hh
  exact lv_iand F.1 F.2.1 hd (kk H locs ls hP hS hh)
theorem go_idiv {x y : Int32} (F : Fx E G A own cc nL ret fr lo kc ks) (hd : decode cc pc = .ok (.idiv, 1)) (hy : ¬ y = 0) (kk : Go E G A kc ks Q nL V (pc + 1) lv (.int (x / y) :: st)) : Go E G A kc ks Q nL V pc lv (.int y :: .int x :: st) := by
  obtain ⟨p, l, e, R, s, m, args, below, meth, c⟩ := E
  intro H locs ls hP hS hh
  exact lv_idiv F.1 F.2.1 hd hy (kk H locs ls hP hS hh)
theorem go_irem {x y : Int32} (F : Fx E G A own cc nL ret fr lo kc ks) (hd : decode cc pc = .ok (.irem, 1)) (hy : ¬ y = 0) (kk : Go E G A kc ks Q nL V (pc + 1) lv (.int (x - x / y * y) :: st)) : Go E G A kc ks Q nL V pc lv (.int y :: .int x :: st) := by
  obtain ⟨p, l, e, R, s, m, args, below, meth, c⟩ := E
  intro H locs ls hP hS hh
  exact lv_irem F.1 F.2.1 hd hy (kk H locs ls hP hS hh)
def i2c (x : Int32) : Int32 := (x.toUInt32 % 65536).toInt32
theorem go_i2c {x : Int32} (F : Fx E G A own cc nL ret fr lo kc ks) (hd : decode cc pc = .ok (.i2c, 1)) (kk : Go E G A kc ks Q nL V (pc + 1) lv (.int (i2c x) :: st)) : Go E G A kc ks Q nL V pc lv (.int x :: st) := by
  obtain ⟨p, l, e, R, s, m, args, below, meth, c⟩ := E
  intro H locs ls hP hS hh
  exact lv_i2c F.1 F.2.1 hd rfl (kk H locs ls hP hS hh)
theorem go_dup {a : Value} (F : Fx E G A own cc nL ret fr lo kc ks) (hd : decode cc pc = .ok (.dup, 1)) (ha : a.category = 1) (kk : Go E G A kc ks Q nL V (pc + 1) lv (a :: a :: st)) : Go E G A kc ks Q nL V pc lv (a :: st) := by
  obtain ⟨p, l, e, R, s, m, args, below, meth, c⟩ := E
  intro H locs ls hP hS hh
  exact lv_dup F.1 F.2.1 hd ha (kk H locs ls hP hS hh)
theorem go_dup2 {a b : Value} (F : Fx E G A own cc nL ret fr lo kc ks) (hd : decode cc pc = .ok (.dup2, 1)) (ha : a.category = 1) (hb : b.category = 1) (kk : Go E G A kc ks Q nL V (pc + 1) lv (a :: b :: a :: b :: st)) : Go E G A kc ks Q nL V pc lv (a :: b :: st) := by
  obtain ⟨p, l, e, R, s, m, args, below, meth, c⟩ := E
  intro H locs ls hP hS hh
  exact lv_dup2_11 F.1 F.2.1 hd ha hb (kk H locs ls hP hS hh)
theorem go_goto {off : Int} (tgt : Nat) (F : Fx E G A own cc nL ret fr lo kc ks) (hd : decode cc pc = .ok (.goto off, 3)) (ht : (pc : Int) + off = (tgt : Int)) (kk : Go E G A kc ks Q nL V tgt lv st) : Go E G A kc ks Q nL V pc lv st := by
  obtain ⟨p, l, e, R, s, m, args, below, meth, c⟩ := E
  intro H locs ls hP hS hh
  exact lv_goto F.1 F.2.1 hd ht (kk H locs ls hP hS hh)
theorem go_nullT {off : Int} (tgt : Nat) (F : Fx E G A own cc nL ret fr lo kc ks) (hd : decode cc pc = .ok (.ifnull off, 3)) (ht : (pc : Int) + off = (tgt : Int)) (kk : Go E G A kc ks Q nL V tgt lv st) : Go E G A kc ks Q nL V pc lv (.null :: st) := by
  obtain ⟨p, l, e, R, s, m, args, below, meth, c⟩ := E
  intro H locs ls hP hS hh
  exact lv_ifnullN F.1 F.2.1 hd ht (kk H locs ls hP hS hh)
theorem go_nullF {off : Int} {x : Nat} (F : Fx E G A own cc nL ret fr lo kc ks) (hd : decode cc pc = .ok (.ifnull off, 3)) (kk : Go E G A kc ks Q nL V (pc + 3) lv st) : Go E G A kc ks Q nL V pc lv (.ref x :: st) := by
  obtain ⟨p, l, e, R, s, m, args, below, meth, c⟩ := E
  intro H locs ls hP hS hh
  exact lv_ifnull F.1 F.2.1 hd (kk H locs ls hP hS hh)
theorem go_icmp_eq {α : Type} {a b z : α} {x y : Int32} {off : Int} (tgt : Nat) (F : Fx E G A own cc nL ret fr lo kc ks) (hd : decode cc pc = .ok (.if_icmp .eq off, 3)) (ht : (pc : Int) + off = (tgt : Int)) (h : (if x = y then a else b) = z)
    (kt : x = y → a = z → Go E G A kc ks Q nL V tgt lv st) (kf : ¬ x = y → b = z → Go E G A kc ks Q nL V (pc + 3) lv st) : Go E G A kc ks Q nL V pc lv (.int y :: .int x :: st) := by
  obtain ⟨p, l, e, R, s, m, args, below, meth, c⟩ := E
  intro H locs ls hP hS hh
  exact lv_icmp_eq F.1 F.2.1 hd ht (fun q => kt q (by rw [if_pos q] at h; exact h) H locs ls hP hS hh) (fun q => kf q (by rw [if_neg q] at h; exact h) H locs ls hP hS hh)
theorem go_icmp_ne {α : Type} {a b z : α} {x y : Int32} {off : Int} (tgt : Nat) (F : Fx E G A own cc nL ret fr lo kc ks) (hd : decode cc pc = .ok (.if_icmp .ne off, 3)) (ht : (pc : Int) + off = (tgt : Int)) (h : (if x = y then b else a) = z)
    (kt : ¬ x = y → a = z → Go E G A kc ks Q nL V tgt lv st) (kf : x = y → b = z → Go E G A kc ks Q nL V (pc + 3) lv st) : Go E G A kc ks Q nL V pc lv (.int y :: .int x :: st) := by
  obtain ⟨p, l, e, R, s, m, args, below, meth, c⟩ := E
  intro H locs ls hP hS hh
  exact lv_icmp_ne F.1 F.2.1 hd ht (fun q => kt q (by rw [if_neg q] at h; exact h) H locs ls hP hS hh) (fun q => kf q (by rw [if_pos q] at h; exact h) H locs ls hP hS hh)
theorem go_icmp_lt {α : Type} {a b z : α} {x y : Int32} {off : Int} (tgt : Nat) (F : Fx E G A own cc nL ret fr lo kc ks) (hd : decode cc pc = .ok (.if_icmp .lt off, 3)) (ht : (pc : Int) + off = (tgt : Int)) (h : (if x < y then a else b) = z)
    (kt : x < y → a = z → Go E G A kc ks Q nL V tgt lv st) (kf : ¬ x < y → b = z → Go E G A kc ks Q nL V (pc + 3) lv st) : Go E G A kc ks Q nL V pc lv (.int y :: .int x :: st) := by
  obtain ⟨p, l, e, R, s, m, args, below, meth, c⟩ := E
  intro H locs ls hP hS hh
  exact lv_icmp_lt F.1 F.2.1 hd ht (fun q => kt q (by rw [if_pos q] at h; exact h) H locs ls hP hS hh) (fun q => kf q (by rw [if_neg q] at h; exact h) H locs ls hP hS hh)
theorem go_icmp_ge {α : Type} {a b z : α} {x y : Int32} {off : Int} (tgt : Nat) (F : Fx E G A own cc nL ret fr lo kc ks) (hd : decode cc pc = .ok (.if_icmp .ge off, 3)) (ht : (pc : Int) + off = (tgt : Int)) (h : (if y ≤ x then a else b) = z)
    (kt : y ≤ x → a = z → Go E G A kc ks Q nL V tgt lv st) (kf : ¬ y ≤ x → b = z → Go E G A kc ks Q nL V (pc + 3) lv st) : Go E G A kc ks Q nL V pc lv (.int y :: .int x :: st) := by
  obtain ⟨p, l, e, R, s, m, args, below, meth, c⟩ := E
  intro H locs ls hP hS hh
  exact lv_icmp_ge F.1 F.2.1 hd ht (fun q => kt q (by rw [if_pos q] at h; exact h) H locs ls hP hS hh) (fun q => kf q (by rw [if_neg q] at h; exact h) H locs ls hP hS hh)
theorem go_icmp_gt {α : Type} {a b z : α} {x y : Int32} {off : Int} (tgt : Nat) (F : Fx E G A own cc nL ret fr lo kc ks) (hd : decode cc pc = .ok (.if_icmp .gt off, 3)) (ht : (pc : Int) + off = (tgt : Int)) (h : (if y < x then a else b) = z)
    (kt : y < x → a = z → Go E G A kc ks Q nL V tgt lv st) (kf : ¬ y < x → b = z → Go E G A kc ks Q nL V (pc + 3) lv st) : Go E G A kc ks Q nL V pc lv (.int y :: .int x :: st) := by
  obtain ⟨p, l, e, R, s, m, args, below, meth, c⟩ := E
  intro H locs ls hP hS hh
  exact lv_icmp_gt F.1 F.2.1 hd ht (fun q => kt q (by rw [if_pos q] at h; exact h) H locs ls hP hS hh) (fun q => kf q (by rw [if_neg q] at h; exact h) H locs ls hP hS hh)
theorem go_icmp_le {α : Type} {a b z : α} {x y : Int32} {off : Int} (tgt : Nat) (F : Fx E G A own cc nL ret fr lo kc ks) (hd : decode cc pc = .ok (.if_icmp .le off, 3)) (ht : (pc : Int) + off = (tgt : Int)) (h : (if x ≤ y then a else b) = z)
    (kt : x ≤ y → a = z → Go E G A kc ks Q nL V tgt lv st) (kf : ¬ x ≤ y → b = z → Go E G A kc ks Q nL V (pc + 3) lv st) : Go E G A kc ks Q nL V pc lv (.int y :: .int x :: st) := by
  obtain ⟨p, l, e, R, s, m, args, below, meth, c⟩ := E
  intro H locs ls hP hS hh
  exact lv_icmp_le F.1 F.2.1 hd ht (fun q => kt q (by rw [if_pos q] at h; exact h) H locs ls hP hS hh) (fun q => kf q (by rw [if_neg q] at h; exact h) H locs ls hP hS hh)
theorem go_if_eq {α : Type} {a b z : α} {x : Int32} {off : Int} (tgt : Nat) (F : Fx E G A own cc nL ret fr lo kc ks) (hd : decode cc pc = .ok (.ifCond .eq off, 3)) (ht : (pc : Int) + off = (tgt : Int)) (h : (if x = 0 then a else b) = z)
    (kt : x = 0 → a = z → Go E G A kc ks Q nL V tgt lv st) (kf : ¬ x = 0 → b = z → Go E G A kc ks Q nL V (pc + 3) lv st) : Go E G A kc ks Q nL V pc lv (.int x :: st) := by
  obtain ⟨p, l, e, R, s, m, args, below, meth, c⟩ := E
  intro H locs ls hP hS hh
  exact lv_if_eq F.1 F.2.1 hd ht (fun q => kt q (by rw [if_pos q] at h; exact h) H locs ls hP hS hh) (fun q => kf q (by rw [if_neg q] at h; exact h) H locs ls hP hS hh)
theorem go_if_ne {α : Type} {a b z : α} {x : Int32} {off : Int} (tgt : Nat) (F : Fx E G A own cc nL ret fr lo kc ks) (hd : decode cc pc = .ok (.ifCond .ne off, 3)) (ht : (pc : Int) + off = (tgt : Int)) (h : (if x = 0 then b else a) = z)
    (kt : ¬ x = 0 → a = z → Go E G A kc ks Q nL V tgt lv st) (kf : x = 0 → b = z → Go E G A kc ks Q nL V (pc + 3) lv st) : Go E G A kc ks Q nL V pc lv (.int x :: st) := by
  obtain ⟨p, l, e, R, s, m, args, below, meth, c⟩ := E
  intro H locs ls hP hS hh
  exact lv_if_ne F.1 F.2.1 hd ht (fun q => kt q (by rw [if_neg q] at h; exact h) H locs ls hP hS hh) (fun q => kf q (by rw [if_pos q] at h; exact h) H locs ls hP hS hh)
theorem go_if_lt {α : Type} {a b z : α} {x : Int32} {off : Int} (tgt : Nat) (F : Fx E G A own cc nL ret fr lo kc ks) (hd : decode cc pc = .ok (.ifCond .lt off, 3)) (ht : (pc : Int) + off = (tgt : Int)) (h : (if x < 0 then a else b) = z)
    (kt : x < 0 → a = z → Go E G A kc ks Q nL V tgt lv st) (kf : ¬ x < 0 → b = z → Go E G A kc ks Q nL V (pc + 3) lv st) : Go E G A kc ks Q nL V pc lv (.int x :: st) := by
  obtain ⟨p, l, e, R, s, m, args, below, meth, c⟩ := E
  intro H locs ls hP hS hh
  exact lv_if_lt F.1 F.2.1 hd ht (fun q => kt q (by rw [if_pos q] at h; exact h) H locs ls hP hS hh) (fun q => kf q (by rw [if_neg q] at h; exact h) H locs ls hP hS hh)
theorem go_if_ge {α : Type} {a b z : α} {x : Int32} {off : Int} (tgt : Nat) (F : Fx E G A own cc nL ret fr lo kc ks) (hd : decode cc pc = .ok (.ifCond .ge off, 3)) (ht : (pc : Int) + off = (tgt : Int)) (h : (if 0 ≤ x then a else b) = z)
    (kt : 0 ≤ x → a = z → Go E G A kc ks Q nL V tgt lv st) (kf : ¬ 0 ≤ x → b = z → Go E G A kc ks Q nL V (pc + 3) lv st) : Go E G A kc ks Q nL V pc lv (.int x :: st) := by
  obtain ⟨p, l, e, R, s, m, args, below, meth, c⟩ := E
  intro H locs ls hP hS hh
  exact lv_if_ge F.1 F.2.1 hd ht (fun q => kt q (by rw [if_pos q] at h; exact h) H locs ls hP hS hh) (fun q => kf q (by rw [if_neg q] at h; exact h) H locs ls hP hS hh)
theorem go_if_gt {α : Type} {a b z : α} {x : Int32} {off : Int} (tgt : Nat) (F : Fx E G A own cc nL ret fr lo kc ks) (hd : decode cc pc = .ok (.ifCond .gt off, 3)) (ht : (pc : Int) + off = (tgt : Int)) (h : (if 0 < x then a else b) = z)
    (kt : 0 < x → a = z → Go E G A kc ks Q nL V tgt lv st) (kf : ¬ 0 < x → b = z → Go E G A kc ks Q nL V (pc + 3) lv st) : Go E G A kc ks Q nL V pc lv (.int x :: st) := by
  obtain ⟨p, l, e, R, s, m, args, below, meth, c⟩ := E
  intro H locs ls hP hS hh
  exact lv_if_gt F.1 F.2.1 hd ht (fun q => kt q (by rw [if_pos q] at h; exact h) H locs ls hP hS hh) (fun q => kf q (by rw [if_neg q] at h; exact h) H locs ls hP hS hh)
theorem go_if_le {α : Type} {a b z : α} {x : Int32} {off : Int} (tgt : Nat) (F : Fx E G A own cc nL ret fr lo kc ks) (hd : decode cc pc = .ok (.ifCond .le off, 3)) (ht : (pc : Int) + off = (tgt : Int)) (h : (if x ≤ 0 then a else b) = z)
    (kt : x ≤ 0 → a = z → Go E G A kc ks Q nL V tgt lv st) (kf : ¬ x ≤ 0 → b = z → Go E G A kc ks Q nL V (pc + 3) lv st) : Go E G A kc ks Q nL V pc lv (.int x :: st) := by
  obtain ⟨p, l, e, R, s, m, args, below, meth, c⟩ := E
  intro H locs ls hP hS hh
  exact lv_if_le F.1 F.2.1 hd ht (fun q => kt q (by rw [if_pos q] at h; exact h) H locs ls hP hS hh) (fun q => kf q (by rw [if_neg q] at h; exact h) H locs ls hP hS hh)
/-- a guard of the pure word, no step of the machine -/
theorem go_gd {α : Type} {c : Prop} [Decidable c] {a : Option α} {z : α} (h : (if c then a else none) = some z) (k : c → a = some z → Go E G A kc ks Q nL V pc lv st) : Go E G A kc ks Q nL V pc lv st := by
  by_cases q : c
  · rw [if_pos q] at h; exact k q h
  · rw [if_neg q] at h; cases h
theorem go_sw {α : Type} {c : Prop} [Decidable c] {a b z : α} (h : (if c then a else b) = z) (k : c → a = z → Go E G A kc ks Q nL V pc lv st) (k2 : ¬ c → b = z → Go E G A kc ks Q nL V pc lv st) : Go E G A kc ks Q nL V pc lv st := by
  by_cases q : c
  · rw [if_pos q] at h; exact k q h
  · rw [if_neg q] at h; exact k2 q h
theorem go_tabI {dflt lo0 hi : Int} {offs : Array Int} {len : Nat} {x v : Int32} {off : Int} (tgt : Nat) (F : Fx E G A own cc nL ret fr lo kc ks) (hd : decode cc pc = .ok (.tableswitch dflt lo0 hi offs, len)) (hx : x = v) (h1 : ¬ v.toInt < lo0) (h2 : ¬ hi < v.toInt) (ho : offs[(v.toInt - lo0).toNat]? = some off) (ht : (pc : Int) + off = (tgt : Int)) (kk : Go E G A kc ks Q nL V tgt lv st) : Go E G A kc ks Q nL V pc lv (.int x :: st) := by
  obtain ⟨p, l, e, R, s, m, args, below, meth, c⟩ := E
  intro H locs ls hP hS hh
  subst hx
  exact lv_tableIn F.1 F.2.1 hd h1 h2 ho ht (kk H locs ls hP hS hh)
theorem go_tabO {dflt lo0 hi : Int} {offs : Array Int} {len : Nat} {x : Int32} (tgt : Nat) (F : Fx E G A own cc nL ret fr lo kc ks) (hd : decode cc pc = .ok (.tableswitch dflt lo0 hi offs, len)) (hx : x.toInt < lo0 ∨ hi < x.toInt) (ht : (pc : Int) + dflt = (tgt : Int)) (kk : Go E G A kc ks Q nL V tgt lv st) : Go E G A kc ks Q nL V pc lv (.int x :: st) := by
  obtain ⟨p, l, e, R, s, m, args, below, meth, c⟩ := E
  intro H locs ls hP hS hh
  exact lv_tableOut F.1 F.2.1 hd hx ht (kk H locs ls hP hS hh)
theorem tab_out {x : Int32} (n : Nat) (hn : n < 1000) (h : ∀ j : Nat, j < n → ¬ x = nI j) : x.toInt < 0 ∨ (n : Int) - 1 < x.toInt := by
  by_cases q : x.toInt < 0
  · exact Or.inl q
  · by_cases q2 : (n : Int) - 1 < x.toInt
    · exact Or.inr q2
    · exfalso
      obtain ⟨j, hj, e⟩ := vp_in_of (x := x) (n := n) (vp_in_iff.mpr ⟨by omega, by omega⟩) (by omega)
      exact h j hj e
theorem go_lkp {dflt : Int} {ps : Array (Int × Int)} {len : Nat} {x : Int32} {off : Int} (tgt : Nat) (F : Fx E G A own cc nL ret fr lo kc ks) (hd : decode cc pc = .ok (.lookupswitch dflt ps, len)) (hp : (ps.toList.zip (ps.toList.drop 1)).all (fun (a, next) => a.1 < next.1) = true) (ho : Op.lookupswitch.offset ps.toList dflt x.toInt = off) (ht : (pc : Int) + off = (tgt : Int)) (kk : Go E G A kc ks Q nL V tgt lv st) : Go E G A kc ks Q nL V pc lv (.int x :: st) := by
  obtain ⟨p, l, e, R, s, m, args, below, meth, c⟩ := E
  intro H locs ls hP hS hh
  exact lv_lookup F.1 F.2.1 hd hp ho ht (kk H locs ls hP hS hh)
theorem go_get {C : String} {T : u_T} {N ci index k : Nat} {fs : List Value} {v : Value} (F : Fx E G A own cc nL ret fr lo kc ks) (hd : decode cc pc = .ok (.getfield index, 3)) (hc : vwCl[ci]? = some (C, T, N)) (hin : ∀ w ∈ u_ws C T N, w ∈ bw) (j : Nat) (hj : j < N) (hlink : Cond.fieldLink own index (T j).1 (T j).2.1 (T j).2.2.1 ∈ bw) (hk : k < 118) (hw : wE G k (V k) = .inr (ci, fs)) (hv : fs[j]? = some v)
    (kk : Go E G A kc ks Q nL V (pc + 3) lv (v :: st)) : Go E G A kc ks Q nL V pc lv (.ref (AD G k) :: st) := by
  obtain ⟨p, l, e, R, s, m, args, below, meth, c⟩ := E
  intro H locs ls hP hS hh
  obtain ⟨hx, hb, hml, hr, hown, hts, hlk, hK, hI, hA, -⟩ := F
  exact va_get (D := G.2.1) (tys := tysG G) hx hb hts hin hown hK.1 hP k (by rw [wl_get hk, hw]) hc j hj (hts _ hlink) (fun _ h => h) hv hd (kk H locs ls hP hS hh)
theorem go_put {C : String} {T : u_T} {N ci index k : Nat} {fs : List Value} {x : Int32} {ty : FieldType} (F : Fx E G A own cc nL ret fr lo kc ks) (hd : decode cc pc = .ok (.putfield index, 3)) (hc : vwCl[ci]? = some (C, T, N)) (hin : ∀ w ∈ u_ws C T N, w ∈ bw) (ty0 : Nat → FieldType) (hty : ∀ k, k < N → parseFieldDescriptor (T k).2.2.1 = some (ty0 k)) (hnm : ∀ a, a < N → ∀ b, b < N → a ≠ b → (T a).2.1 ≠ (T b).2.1) (j : Nat) (hj : j < N) (hlink : Cond.fieldLink own index (T j).1 (T j).2.1 (T j).2.2.1 ∈ bw) (hfin : (T j).2.2.2 = false) (hpd : parseFieldDescriptor (T j).2.2.1 = some ty) (hn : narrow ty (.int x) = .int x) (hfit : fits ty (.int x) = true)
    (hk : k < 118) (hw : wE G k (V k) = .inr (ci, fs)) (hl : j < fs.length) (hw2 : wE G k (upd (V k) j x) = .inr (ci, fs.set j (.int x))) (kk : Go E G A kc ks Q nL (u2 V k j x) (pc + 3) lv st) : Go E G A kc ks Q nL V pc lv (.int x :: .ref (AD G k) :: st) := by
  obtain ⟨p, l, e, R, s, m, args, below, meth, c⟩ := E
  intro H locs ls hP hS hh
  obtain ⟨hx, hb, hml, hr, hown, hts, hlk, hK, hI, hA, -⟩ := F
  refine va_put (D := G.2.1) (tys := tysG G) hx hb hts hin ty0 hty hnm hown hK.1 hP (wl_D V hI hA) hS k (by rw [wl_get hk, hw]) hc j hj (hts _ hlink) (fun _ h => h) hfin hpd hn hfit hl hd (fun H1 locs1 hP1 hD1 hS1 => kk H1 locs1 ls ?_ hS1 hh)
  rw [← hw2, wl_set hk] at hP1
  exact hP1
theorem wE_arr {k n : Nat} (hk : kd k = 1000 + n) (h9 : n < 1050) (f : Nat → Int32) : wE G k f = .inl (G.2.2.1, (n, .inl f)) := by
  unfold wE
  rw [hk]
  unfold wEk
  split <;> first | omega | (rw [show 1000 + n - 1000 = n by omega])
theorem wE_chr {k : Nat} (hk : kd k = 2050) (f : Nat → Int32) : wE G k f = .inl (G.2.2.2.1, (50, .inl f)) := by
  unfold wE
  rw [hk]
  rfl
theorem go_iald {α : Type} {k : Nat} {i : Int32} {f : Int32 → Option α} {z : α} (n : Nat) (F : Fx E G A own cc nL ret fr lo kc ks) (hd : decode cc pc = .ok (.iaload, 1)) (hk : kd k = 1000 + n) (h9 : n < 1050) (h : (rd_ (V k) n i).bind f = some z) (kk : ∀ x : Int32, f x = some z → Go E G A kc ks Q nL V (pc + 1) lv (.int x :: st)) : Go E G A kc ks Q nL V pc lv (.int i :: .ref (AD G k) :: st) := by
  obtain ⟨p, l, e, R, s, m, args, below, meth, c⟩ := E
  intro H locs ls hP hS hh
  obtain ⟨hx, hb, hml, hr, hown, hts, hlk, hK, hI, hA, -⟩ := F
  obtain ⟨x, h1, h2⟩ := ob_ h
  obtain ⟨h3, rfl⟩ := rd_ok h1
  exact va_iald (D := G.2.1) (tys := tysG G) hx hb hK.1 hP k 0 (by rw [wl_get (kd_lt hk (by omega)), wE_arr hk h9]) rfl h3 hd (kk _ h2 H locs ls hP hS hh)
theorem go_cald {α : Type} {k : Nat} {i : Int32} {f : Int32 → Option α} {z : α} (F : Fx E G A own cc nL ret fr lo kc ks) (hd : decode cc pc = .ok (.caload, 1)) (hk : kd k = 2050) (h : (rd_ (V k) 50 i).bind f = some z) (kk : ∀ x : Int32, f x = some z → Go E G A kc ks Q nL V (pc + 1) lv (.int x :: st)) : Go E G A kc ks Q nL V pc lv (.int i :: .ref (AD G k) :: st) := by
  obtain ⟨p, l, e, R, s, m, args, below, meth, c⟩ := E
  intro H locs ls hP hS hh
  obtain ⟨hx, hb, hml, hr, hown, hts, hlk, hK, hI, hA, -⟩ := F
  obtain ⟨x, h1, h2⟩ := ob_ h
  obtain ⟨h3, rfl⟩ := rd_ok h1
  exact va_cald (D := G.2.1) (tys := tysG G) hx hb hK.1 hP k 1 (by rw [wl_get (kd_lt hk (by omega)), wE_chr hk]) rfl h3 hd (kk _ h2 H locs ls hP hS hh)
/-- a row's store -/
def st_ {α : Type} (V : Wd) (k n : Nat) (i x : Int32) (f : Wd → Option α) : Option α := if i < 0 ∨ n ≤ i.toNatClampNeg then none else f (u2 V k i.toNatClampNeg x)
theorem st_ok {α : Type} {V : Wd} {k n : Nat} {i x : Int32} {f : Wd → Option α} {z : α} (h : st_ V k n i x f = some z) : vp_in i n ∧ f (u2 V k i.toNatClampNeg x) = some z := by
  unfold st_ at h
  split at h
  · cases h
  · next q => exact ⟨q, h⟩
theorem go_iast {α : Type} {k : Nat} {i x : Int32} {f : Wd → Option α} {z : α} (n : Nat) (F : Fx E G A own cc nL ret fr lo kc ks) (hd : decode cc pc = .ok (.iastore, 1)) (hk : kd k = 1000 + n) (h9 : n < 1050) (h : st_ V k n i x f = some z) (kk : ∀ V1 : Wd, f V1 = some z → Go E G A kc ks Q nL V1 (pc + 1) lv st) : Go E G A kc ks Q nL V pc lv (.int x :: .int i :: .ref (AD G k) :: st) := by
  obtain ⟨p, l, e, R, s, m, args, below, meth, c⟩ := E
  intro H locs ls hP hS hh
  obtain ⟨hx, hb, hml, hr, hown, hts, hlk, hK, hI, hA, -⟩ := F
  obtain ⟨h3, h4⟩ := st_ok h
  have hk8 := kd_lt hk (by omega)
  refine va_iast (D := G.2.1) (tys := tysG G) hx hb hK.1 hP (wl_D V hI hA) hS k 0 (by rw [wl_get hk8, wE_arr hk h9]) rfl h3 hd (fun H1 locs1 hP1 hD1 hS1 => kk _ h4 H1 locs1 ls ?_ hS1 hh)
  rw [← wE_arr (G := G) hk h9, wl_set hk8] at hP1
  exact hP1
theorem go_cast {α : Type} {k : Nat} {i x : Int32} {f : Wd → Option α} {z : α} (F : Fx E G A own cc nL ret fr lo kc ks) (hd : decode cc pc = .ok (.castore, 1)) (hk : kd k = 2050) (h : st_ V k 50 i (vp_nar .char x) f = some z) (kk : ∀ V1 : Wd, f V1 = some z → Go E G A kc ks Q nL V1 (pc + 1) lv st) : Go E G A kc ks Q nL V pc lv (.int x :: .int i :: .ref (AD G k) :: st) := by
  obtain ⟨p, l, e, R, s, m, args, below, meth, c⟩ := E
  intro H locs ls hP hS hh
  obtain ⟨hx, hb, hml, hr, hown, hts, hlk, hK, hI, hA, -⟩ := F
  obtain ⟨h3, h4⟩ := st_ok h
  have hk8 := kd_lt hk (by omega)
  refine va_cast (D := G.2.1) (tys := tysG G) hx hb hK.1 hP (wl_D V hI hA) hS k 1 (by rw [wl_get hk8, wE_chr hk]) rfl h3 hd (fun H1 locs1 hP1 hD1 hS1 => kk _ h4 H1 locs1 ls ?_ hS1 hh)
  rw [← wE_chr (G := G) hk, wl_set hk8] at hP1
  exact hP1
theorem go_alen {k : Nat} (n : Nat) (F : Fx E G A own cc nL ret fr lo kc ks) (hd : decode cc pc = .ok (.arraylength, 1)) (hk : kd k = 1000 + n) (h9 : n < 1050) (v : Int32) (hv : Int32.ofNat n = v) (kk : Go E G A kc ks Q nL V (pc + 1) lv (.int v :: st)) : Go E G A kc ks Q nL V pc lv (.ref (AD G k) :: st) := by
  obtain ⟨p, l, e, R, s, m, args, below, meth, c⟩ := E
  intro H locs ls hP hS hh
  obtain ⟨hx, hb, hml, hr, hown, hts, hlk, hK, hI, hA, -⟩ := F
  exact va_alen (D := G.2.1) (tys := tysG G) hx hb hK.1 hP k 0 (by rw [wl_get (kd_lt hk (by omega)), wE_arr hk h9]) rfl hv hd (kk H locs ls hP hS hh)
/-- the row of the states: its i-th is the cell behind it -/
def rq_ (k : Nat) (i : Int32) : Option Nat := if i < 0 ∨ 5 ≤ i.toNatClampNeg then none else some (k + 1 + 14 * i.toNatClampNeg)
theorem go_aald {α : Type} {k : Nat} {i : Int32} {f : Nat → Option α} {z : α} (F : Fx E G A own cc nL ret fr lo kc ks) (hd : decode cc pc = .ok (.aaload, 1)) (hk : kd k = 3000) (h : (rq_ k i).bind f = some z) (kk : ∀ x : Nat, f x = some z → Go E G A kc ks Q nL V (pc + 1) lv (.ref (AD G x) :: st)) : Go E G A kc ks Q nL V pc lv (.int i :: .ref (AD G k) :: st) := by
  obtain ⟨p, l, e, R, s, m, args, below, meth, c⟩ := E
  intro H locs ls hP hS hh
  obtain ⟨hx, hb, hml, hr, hown, hts, hlk, hK, hI, hA, -⟩ := F
  obtain ⟨x, h1, h2⟩ := ob_ h
  have h3 : vp_in i 5 ∧ x = k + 1 + 14 * i.toNatClampNeg := by
    unfold rq_ at h1
    split at h1
    · cases h1
    · next q => exact ⟨q, (Option.some.inj h1).symm⟩
  have hw : wE G k (V k) = .inl (G.2.2.2.2, (5, .inr (.inr (.inr (.inr (fun j => some (AD G (k + 1 + 14 * j)))))))) := by
    unfold wE
    rw [hk]
    rfl
  refine va_aldq (D := G.2.1) (tys := tysG G) hx hb hK.1 hP k 2 (by rw [wl_get (kd_lt hk (by omega)), hw]) rfl h3.1 hd ?_
  have h4 := kk x h2 H locs ls hP hS hh
  rw [h3.2] at h4
  exact h4
theorem go_copy {α : Type} {k0 k1 index : Nat} {sp dp n : Int32} {f : Wd → α} {z : α} (n0 n1 sp' dp' n' : Nat) (F : Fx E G A own cc nL ret fr lo kc ks) (hd : decode cc pc = .ok (.invokestatic index, 3)) (hlink : Cond.methodLink own index arraycopyName ∈ bw) (hk0 : kd k0 = 1000 + n0) (h0 : n0 < 1050) (hk1 : kd k1 = 1000 + n1) (h1 : n1 < 1050)
    (e1 : sp.toNatClampNeg = sp') (e2 : dp.toNatClampNeg = dp') (e3 : n.toNatClampNeg = n') (g1 : ¬ sp < 0) (g2 : ¬ dp < 0) (g3 : ¬ n < 0) (g4 : sp' + n' ≤ n0) (g5 : dp' + n' ≤ n1) (hfr : 1 ≤ fr) (hlo : (st.map fun v => v.category).sum + 18 ≤ lo)
    (h : li_ (cp2 V k0 k1 sp' dp' n') f = z) (kk : ∀ V1 : Wd, f V1 = z → Go E G A kc ks Q nL V1 (pc + 3) lv st) : Go E G A kc ks Q nL V pc lv (.int n :: .int dp :: .ref (AD G k1) :: .int sp :: .ref (AD G k0) :: st) := by
  obtain ⟨p, l, e, R, s, m, args, below, meth, c⟩ := E
  intro H locs ls hP hS hh
  obtain ⟨hx, hb, hml, hr, hown, hts, hlk, hK, hI, hA, r1, r2, r3, r4⟩ := F
  subst e1 e2 e3
  have hk8 := kd_lt hk1 (by omega)
  refine va_copyi (D := G.2.1) (tys := tysG G) hx hb (by rw [hml, hh.1]) hown (hts _ hlink) (hts _ nat_ac) (hts _ sm_arraycopyName) (hts _ in_J10) hK.1 hP (wl_D V hI hA) hS k0 k1 0 0 (by rw [wl_get (kd_lt hk0 (by omega)), wE_arr hk0 h0]) (by rw [wl_get hk8, wE_arr hk1 h1]) rfl rfl rfl g1 g2 g3 g4 g5 (fun i _ => rfl) (by omega) (Nat.le_trans hlo r2) hd (fun H1 locs1 hP1 hD1 hS1 => kk _ h H1 locs1 ls ?_ hS1 hh)
  rw [← wE_arr (G := G) hk1 h1, wl_set hk8] at hP1
  exact hP1
theorem go_max {index : Nat} {x y : Int32} (F : Fx E G A own cc nL ret fr lo kc ks) (hd : decode cc pc = .ok (.invokestatic index, 3)) (hlink : Cond.methodLink own index Lib.Math.max.name ∈ bw) (hfr : 1 ≤ fr) (hlo : (st.map fun v => v.category).sum + 13 ≤ lo) (kk : Go E G A kc ks Q nL V (pc + 3) lv (.int (if x < y then y else x) :: st)) : Go E G A kc ks Q nL V pc lv (.int y :: .int x :: st) := by
  obtain ⟨p, l, e, R, s, m, args, below, meth, c⟩ := E
  intro H locs ls hP hS hh
  obtain ⟨hx, hb, hml, hr, hown, hts, hlk, hK, hI, hA, r1, r2, r3, r4⟩ := F
  exact va_mmax hx hb (by rw [hml, hh.1]) hown (hts _ hlink) (hts _ sm_Lib_Math_max_name) (hts _ in_J9) (hts _ cw_max) (by omega) (Nat.le_trans hlo r2) r3 r4 hd (kk H locs ls hP hS hh)
theorem go_min {index : Nat} {x y : Int32} (F : Fx E G A own cc nL ret fr lo kc ks) (hd : decode cc pc = .ok (.invokestatic index, 3)) (hlink : Cond.methodLink own index Lib.Math.min.name ∈ bw) (hfr : 1 ≤ fr) (hlo : (st.map fun v => v.category).sum + 13 ≤ lo) (kk : Go E G A kc ks Q nL V (pc + 3) lv (.int (if y < x then y else x) :: st)) : Go E G A kc ks Q nL V pc lv (.int y :: .int x :: st) := by
  obtain ⟨p, l, e, R, s, m, args, below, meth, c⟩ := E
  intro H locs ls hP hS hh
  obtain ⟨hx, hb, hml, hr, hown, hts, hlk, hK, hI, hA, r1, r2, r3, r4⟩ := F
  exact va_mmin hx hb (by rw [hml, hh.1]) hown (hts _ hlink) (hts _ sm_Lib_Math_min_name) (hts _ in_J9) (hts _ cw_min) (by omega) (Nat.le_trans hlo r2) r3 r4 hd (kk H locs ls hP hS hh)
/-- behind a call: its answer on the stack, its world -/
theorem go_run {s : State} {p : Program} {l : Launch} {e : Env} {R : Room} {m : MethodId} {args : Array Value} {below : List Frame} {meth : Method} {c : Code} {H : Heap} {locs : List Loc} {ls : Array Slot} {st0 : List Value} {rv : Option Value} {V1 : Wd} {av : Array Value} (hr : va_Run p l e R s m args below meth c H locs kc ks 0 0 (F0 m pc ls st0) st (Qg G rv V1 av) (AG G)) (hS : va_S A s.heap H locs) (hA : ∀ k, k < 118 → A (AD G k)) (hh : lv_has ls nL lv)
    (kk : Go (p, l, e, R, s, m, args, below, meth, c) G A kc ks Q nL V1 (pc + 3) lv (rv.toList ++ st)) : W p l e R s m args below meth c H locs kc ks Q (F0 m pc ls st0) := by
  intro T hT X
  obtain ⟨v, st₀, t, T', L, h0, X', hL, e1, e2, ⟨hv, hp, hz, hk⟩, st1⟩ := hr T hT X
  cases hv
  rw [h0] at hz hk
  have sub : ∀ q, AG G q → A q := fun q ⟨k, h1, h2⟩ => by rw [h2]; exact hA k h1
  obtain ⟨t2, a1, b1⟩ := kk T'.heap (locs ++ L) ls (by rw [e1]; exact hp) ⟨Nat.le_trans hS.1 (by rw [e1]; exact hz), fun q h1 h2 => by rw [e1, hk q (Nat.lt_of_lt_of_le h1 hS.1) (fun z => h2 (sub q z))]; exact hS.2.1 q h1 h2, fun q hq => by
      rcases List.mem_append.mp hq with h | h
      · exact hS.2.2 q h
      · exact sub _ (hL q h)⟩ hh T' rfl X'
  exact ⟨t2, st1 t2 a1, b1⟩
theorem go_callV {y : MethodName} {b : ByteArray} {n index k ci : Nat} {C : String} {T : u_T} {N : Nat} {fs : List Value} {rt : Option FieldType} {f1 l1 : Nat} {As : List Value} {V1 : Wd} {rv : Option Value} (F : Fx E G A own cc nL ret fr lo kc ks) (hd : decode cc pc = .ok (.invokevirtual index, 3)) (hlink : Cond.methodLink own index y ∈ bw) (hcw : Cond.code y b n rt ∈ bw) (him : Cond.instanceMethod y ∈ bw) (hse : Cond.selects C y y ∈ bw) (hini : Cond.initialized y.cls ∈ bw)
    (hyd : y.cls ≠ "java/lang/invoke/MethodHandle" ∧ y.cls ≠ "java/lang/invoke/VarHandle" ∧ (parseMethodDescriptor y.desc).map (fun d => d.parameters.length) = some As.length) (hk : k < 118) (hw : wE G k (V k) = .inr (ci, fs)) (hc : vwCl[ci]? = some (C, T, N)) (hM : Ct (enL E) G y b n rt f1 l1 (.ref (AD G k) :: As) V rv V1) (hfr : f1 + 1 ≤ fr) (hlo : 8 + (n + 11) + l1 ≤ lo) (hst : (st.map fun v => v.category).sum ≤ 8) {st0 : List Value} (he : st0 = As.reverse ++ .ref (AD G k) :: st)
    (kk : Go E G A kc ks Q nL V1 (pc + 3) lv (rv.toList ++ st)) : Go E G A kc ks Q nL V pc lv st0 := by
  obtain ⟨p, l, e, R, s, m, args, below, meth, c⟩ := E
  intro H locs ls hP hS hh
  obtain ⟨hx, hb, hml, hr, hown, hts, hlk, hK, hI, hA, r1, r2, r3, r4⟩ := F
  exact go_run (va_runV (As := As) (rest := st) ⟨hx, hb, hml, hown, hts⟩ hM ⟨callB_of As.length hts (gbl hcw) rfl rfl rfl (hts _ hini) (hts _ hlink) hyd ⟨Nat.le_trans hfr r1, Nat.le_trans hlo r2⟩, hts _ him, hts _ hse⟩ ⟨Pg.blind, va_recv (tys := tysG G) hK.1 hP (ci := ci) (q0 := k) hc (by rw [wl_get hk, hw]), fun U hU hW => ⟨rfl, by rw [hU]; exact hP, hK.warm hW, hI⟩⟩ rfl rfl hh.1 he (lv_room hst) hd ⟨r3, r4⟩) hS hA hh kk
theorem go_callS {y : MethodName} {b : ByteArray} {n index : Nat} {rt : Option FieldType} {f1 l1 : Nat} {As : List Value} {V1 : Wd} {rv : Option Value} (F : Fx E G A own cc nL ret fr lo kc ks) (hd : decode cc pc = .ok (.invokestatic index, 3)) (hlink : Cond.methodLink own index y ∈ bw) (hcw : Cond.code y b n rt ∈ bw) (hsm : Cond.static y ∈ bw) (hini : Cond.initialized y.cls ∈ bw)
    (hyd : y.cls ≠ "java/lang/invoke/MethodHandle" ∧ y.cls ≠ "java/lang/invoke/VarHandle" ∧ (parseMethodDescriptor y.desc).map (fun d => d.parameters.length) = some As.length) (hM : Ct (enL E) G y b n rt f1 l1 As V rv V1) (hfr : f1 + 1 ≤ fr) (hlo : 8 + (n + 11) + l1 ≤ lo) (hst : (st.map fun v => v.category).sum ≤ 8) {st0 : List Value} (he : st0 = As.reverse ++ st)
    (kk : Go E G A kc ks Q nL V1 (pc + 3) lv (rv.toList ++ st)) : Go E G A kc ks Q nL V pc lv st0 := by
  obtain ⟨p, l, e, R, s, m, args, below, meth, c⟩ := E
  intro H locs ls hP hS hh
  obtain ⟨hx, hb, hml, hr, hown, hts, hlk, hK, hI, hA, r1, r2, r3, r4⟩ := F
  exact go_run (va_runS (As := As) (rest := st) ⟨hx, hb, hml, hown, hts⟩ hM ⟨callB_of As.length hts (gbl hcw) rfl rfl rfl (hts _ hini) (hts _ hlink) hyd ⟨Nat.le_trans hfr r1, Nat.le_trans hlo r2⟩, hts _ hsm⟩ ⟨Pg.blind, fun U hU hW => ⟨rfl, by rw [hU]; exact hP, hK.warm hW, hI⟩⟩ rfl rfl hh.1 he (lv_room hst) hd ⟨r3, r4⟩) hS hA hh kk
theorem go_callN {y : MethodName} {b : ByteArray} {n index : Nat} {host : String} {rt : Option FieldType} {f1 l1 : Nat} {As : List Value} {V1 : Wd} {rv : Option Value} (F : Fx E G A own cc nL ret fr lo kc ks) (hd : decode cc pc = .ok (.invokestatic index, 3)) (hlink : Cond.methodLinkNest own index y host ∈ nws) (hcw : Cond.code y b n rt ∈ bw) (hsm : Cond.static y ∈ bw) (hini : Cond.initialized y.cls ∈ bw)
    (hyd : y.cls ≠ "java/lang/invoke/MethodHandle" ∧ y.cls ≠ "java/lang/invoke/VarHandle" ∧ (parseMethodDescriptor y.desc).map (fun d => d.parameters.length) = some As.length) (hM : Ct (enL E) G y b n rt f1 l1 As V rv V1) (hfr : f1 + 1 ≤ fr) (hlo : 8 + (n + 11) + l1 ≤ lo) (hst : (st.map fun v => v.category).sum ≤ 8) {st0 : List Value} (he : st0 = As.reverse ++ st)
    (kk : Go E G A kc ks Q nL V1 (pc + 3) lv (rv.toList ++ st)) : Go E G A kc ks Q nL V pc lv st0 := by
  obtain ⟨p, l, e, R, s, m, args, below, meth, c⟩ := E
  intro H locs ls hP hS hh
  obtain ⟨hx, hb, hml, hr, hown, hts, hlk, hK, hI, hA, r1, r2, r3, r4⟩ := F
  exact go_run (va_runSN (As := As) (rest := st) ⟨hx, hb, hml, hown, hts⟩ hM ⟨va_cnB As.length hts (gbl hcw) rfl rfl rfl (hK.2 _ hlink) (hts _ hini) hyd ⟨Nat.le_trans hfr r1, Nat.le_trans hlo r2⟩, hts _ hsm, trivial⟩ ⟨Pg.blind, fun U hU hW => ⟨rfl, by rw [hU]; exact hP, hK.warm hW, hI⟩⟩ rfl rfl hh.1 he (lv_room hst) hd ⟨r3, r4⟩) hS hA hh kk
theorem go_iret {x : Int32} {rv : Option Value} {V' : Wd} (F : Fx E G (AG G) own cc nL (some .int) fr lo 0 0) (hd : decode cc pc = .ok (.ireturn, 1)) (hr : rv = some (.int x)) (hV : V' = V) : Go E G (AG G) 0 0 (MQq E G rv V') nL V pc lv [.int x] := by
  obtain ⟨p, l, e, R, s, m, args, below, meth, c⟩ := E
  subst hr hV
  intro H locs ls hP hS hh
  exact W.iret (v := x) F.1 F.2.1 F.2.2.2.1 (fun t ht hW => ⟨rfl, by rw [ht]; exact hP, hS.F ht⟩) hS.2.2 hd (hlocks := F.2.2.2.2.2.2.1)
theorem go_zret {x : Int32} {rv : Option Value} {V' : Wd} (F : Fx E G (AG G) own cc nL (some .boolean) fr lo 0 0) (hd : decode cc pc = .ok (.ireturn, 1)) (hx : narrow .boolean (.int x) = .int x) (hr : rv = some (.int x)) (hV : V' = V) : Go E G (AG G) 0 0 (MQq E G rv V') nL V pc lv [.int x] := by
  obtain ⟨p, l, e, R, s, m, args, below, meth, c⟩ := E
  subst hr hV
  intro H locs ls hP hS hh
  exact W.zret (v := x) F.1 F.2.1 F.2.2.2.1 hx (fun t ht hW => ⟨rfl, by rw [ht]; exact hP, hS.F ht⟩) hS.2.2 hd (hlocks := F.2.2.2.2.2.2.1)
theorem go_vret {rv : Option Value} {V' : Wd} (F : Fx E G (AG G) own cc nL none fr lo 0 0) (hd : decode cc pc = .ok (.return_, 1)) (hr : rv = none) (hV : V' = V) : Go E G (AG G) 0 0 (MQq E G rv V') nL V pc lv [] := by
  obtain ⟨p, l, e, R, s, m, args, below, meth, c⟩ := E
  subst hr hV
  intro H locs ls hP hS hh
  exact W.vret F.1 F.2.1 F.2.2.2.1 (fun t ht hW => ⟨rfl, by rw [ht]; exact hP, hS.F ht⟩) hS.2.2 hd (hlocks := F.2.2.2.2.2.2.1)
theorem go_aret {C : String} {x : Value} {rv : Option Value} {V' : Wd} (F : Fx E G (AG G) own cc nL (some (.object C)) fr lo 0 0) (hd : decode cc pc = .ok (.areturn, 1)) (hx : x = .null ∨ ∃ a, x = .ref a) (hr : rv = some x) (hV : V' = V) : Go E G (AG G) 0 0 (MQq E G rv V') nL V pc lv [x] := by
  obtain ⟨p, l, e, R, s, m, args, below, meth, c⟩ := E
  subst hr hV
  intro H locs ls hP hS hh
  exact W.aret (v := x) F.1 F.2.1 F.2.2.2.1 (Or.inl ⟨_, rfl⟩) hx (fun t ht hW => ⟨rfl, by rw [ht]; exact hP, hS.F ht⟩) hS.2.2 hd (hlocks := F.2.2.2.2.2.2.1)
end CORE
end
section
section RETS
variable {E : En} {G : Gm} {A : Nat → Prop} {own : String} {cc : ByteArray} {nL fr lo kc ks : Nat} {ret : Option FieldType} {Q : State → Prop} {V : Wd} {pc : Nat} {lv : List (Nat × Value)} {st : List Value}
theorem go_topi {α : Type} {x : Int32} {f : Int32 → α} {z : α} (h : li_ x f = z) (kk : ∀ y : Int32, f y = z → Go E G A kc ks Q nL V pc lv (.int y :: st)) : Go E G A kc ks Q nL V pc lv (.int x :: st) := kk x h
theorem go_topr {α : Type} {x : Nat} {f : Nat → α} {z : α} (h : li_ x f = z) (kk : ∀ y : Nat, f y = z → Go E G A kc ks Q nL V pc lv (.ref (AD G y) :: st)) : Go E G A kc ks Q nL V pc lv (.ref (AD G x) :: st) := kk x h
abbrev isB (x : Int32) : Prop := x = 0 ∨ x = 1
theorem isB_n {x : Int32} (h : isB x) : narrow .boolean (.int x) = .int x := by rcases h with rfl | rfl <;> rfl
theorem go_iretT {x z : Int32} (F : Fx E G (AG G) own cc nL (some .int) fr lo 0 0) (hd : decode cc pc = .ok (.ireturn, 1)) (h : x = z) : Go E G (AG G) 0 0 (MQq E G (some (.int z)) V) nL V pc lv [.int x] := go_iret F hd (by rw [h]) rfl
theorem go_iretR {x z : Int32} (F : Fx E G (AG G) own cc nL (some .int) fr lo 0 0) (hd : decode cc pc = .ok (.ireturn, 1)) (h : some x = some z) : Go E G (AG G) 0 0 (MQq E G (some (.int z)) V) nL V pc lv [.int x] := go_iret F hd (by cases h; rfl) rfl
theorem go_iretW {x : Int32} {z : Int32 × Wd} (F : Fx E G (AG G) own cc nL (some .int) fr lo 0 0) (hd : decode cc pc = .ok (.ireturn, 1)) (h : some (x, V) = some z) : Go E G (AG G) 0 0 (MQq E G (some (.int z.1)) z.2) nL V pc lv [.int x] := go_iret F hd (by cases h; rfl) (by cases h; rfl)
theorem go_zretT {x z : Int32} (F : Fx E G (AG G) own cc nL (some .boolean) fr lo 0 0) (hd : decode cc pc = .ok (.ireturn, 1)) (hx : narrow .boolean (.int x) = .int x) (h : x = z) : Go E G (AG G) 0 0 (MQq E G (some (.int z)) V) nL V pc lv [.int x] := go_zret F hd hx (by rw [h]) rfl
theorem go_zretR {x z : Int32} (F : Fx E G (AG G) own cc nL (some .boolean) fr lo 0 0) (hd : decode cc pc = .ok (.ireturn, 1)) (hx : narrow .boolean (.int x) = .int x) (h : some x = some z) : Go E G (AG G) 0 0 (MQq E G (some (.int z)) V) nL V pc lv [.int x] := go_zret F hd hx (by cases h; rfl) rfl
theorem go_zretW {x : Int32} {z : Int32 × Wd} (F : Fx E G (AG G) own cc nL (some .boolean) fr lo 0 0) (hd : decode cc pc = .ok (.ireturn, 1)) (hx : narrow .boolean (.int x) = .int x) (h : some (x, V) = some z) : Go E G (AG G) 0 0 (MQq E G (some (.int z.1)) z.2) nL V pc lv [.int x] := go_zret F hd hx (by cases h; rfl) (by cases h; rfl)
theorem go_vretW {z : Wd} (F : Fx E G (AG G) own cc nL none fr lo 0 0) (hd : decode cc pc = .ok (.return_, 1)) (h : some V = some z) : Go E G (AG G) 0 0 (MQq E G none z) nL V pc lv [] := go_vret F hd rfl (by cases h; rfl)
theorem go_aretT {C : String} {x z : Nat} (F : Fx E G (AG G) own cc nL (some (.object C)) fr lo 0 0) (hd : decode cc pc = .ok (.areturn, 1)) (h : x = z) : Go E G (AG G) 0 0 (MQq E G (some (.ref (AD G z))) V) nL V pc lv [.ref (AD G x)] := go_aret F hd (Or.inr ⟨_, rfl⟩) (by rw [h]) rfl
theorem go_aretW {C : String} {x : Nat} {z : Nat × Wd} (F : Fx E G (AG G) own cc nL (some (.object C)) fr lo 0 0) (hd : decode cc pc = .ok (.areturn, 1)) (h : some (x, V) = some z) : Go E G (AG G) 0 0 (MQq E G (some (.ref (AD G z.1))) z.2) nL V pc lv [.ref (AD G x)] := go_aret F hd (Or.inr ⟨_, rfl⟩) (by cases h; rfl) (by cases h; rfl)
theorem go_aretN {C : String} {z : Option Nat} (F : Fx E G (AG G) own cc nL (some (.object C)) fr lo 0 0) (hd : decode cc pc = .ok (.areturn, 1)) (h : some none = some z) : Go E G (AG G) 0 0 (MQq E G (some (refv G z)) V) nL V pc lv [.null] := go_aret F hd (Or.inl rfl) (by cases h; rfl) rfl
theorem go_aretS {C : String} {x : Nat} {z : Option Nat} (F : Fx E G (AG G) own cc nL (some (.object C)) fr lo 0 0) (hd : decode cc pc = .ok (.areturn, 1)) (h : some (some x) = some z) : Go E G (AG G) 0 0 (MQq E G (some (refv G z)) V) nL V pc lv [.ref (AD G x)] := go_aret F hd (Or.inr ⟨_, rfl⟩) (by cases h; rfl) rfl
theorem lk_off (k o0 o1 d : Int) : Op.lookupswitch.offset [((0 : Int), o0), (1, o1)] d k = if 0 = k then o0 else if 1 = k then o1 else d := rfl
theorem lk_0 {x : Int32} {o0 o1 d : Int} (h : x = 0) : Op.lookupswitch.offset (#[((0 : Int), o0), (1, o1)] : Array (Int × Int)).toList d x.toInt = o0 := by subst h; rfl
theorem lk_1 {x : Int32} {o0 o1 d : Int} (h : x = 1) : Op.lookupswitch.offset (#[((0 : Int), o0), (1, o1)] : Array (Int × Int)).toList d x.toInt = o1 := by subst h; rfl
theorem lk_d {x : Int32} {o0 o1 d : Int} (h0 : ¬ x = 0) (h1 : ¬ x = 1) : Op.lookupswitch.offset (#[((0 : Int), o0), (1, o1)] : Array (Int × Int)).toList d x.toInt = d := by
  show (if 0 = x.toInt then o0 else if 1 = x.toInt then o1 else d) = d
  rw [if_neg (fun e => h0 (Int32.toInt.inj (e.symm.trans rfl))), if_neg (fun e => h1 (Int32.toInt.inj (e.symm.trans rfl)))]
end RETS
theorem kf_1_1 {k : Nat} (h : kd k = 1) : kd (k + 1) = 2 := by
  have hk := kd_lt h (by decide)
  exact (show ∀ k, k < 118 → kd k = 1 → kd (k + 1) = 2 by decide +kernel) k hk h
theorem kf_1_5 {k : Nat} (h : kd k = 1) : kd (k + 5) = 3 := by
  have hk := kd_lt h (by decide)
  exact (show ∀ k, k < 118 → kd k = 1 → kd (k + 5) = 3 by decide +kernel) k hk h
theorem kf_1_8 {k : Nat} (h : kd k = 1) : kd (k + 8) = 4 := by
  have hk := kd_lt h (by decide)
  exact (show ∀ k, k < 118 → kd k = 1 → kd (k + 8) = 4 by decide +kernel) k hk h
theorem kf_1_11 {k : Nat} (h : kd k = 1) : kd (k + 11) = 5 := by
  have hk := kd_lt h (by decide)
  exact (show ∀ k, k < 118 → kd k = 1 → kd (k + 11) = 5 by decide +kernel) k hk h
theorem kf_2_1 {k : Nat} (h : kd k = 2) : kd (k + 1) = 1010 := by
  have hk := kd_lt h (by decide)
  exact (show ∀ k, k < 118 → kd k = 2 → kd (k + 1) = 1010 by decide +kernel) k hk h
theorem kf_2_2 {k : Nat} (h : kd k = 2) : kd (k + 2) = 1010 := by
  have hk := kd_lt h (by decide)
  exact (show ∀ k, k < 118 → kd k = 2 → kd (k + 2) = 1010 by decide +kernel) k hk h
theorem kf_2_3 {k : Nat} (h : kd k = 2) : kd (k + 3) = 1010 := by
  have hk := kd_lt h (by decide)
  exact (show ∀ k, k < 118 → kd k = 2 → kd (k + 3) = 1010 by decide +kernel) k hk h
theorem kf_3_1 {k : Nat} (h : kd k = 3) : kd (k + 1) = 1020 := by
  have hk := kd_lt h (by decide)
  exact (show ∀ k, k < 118 → kd k = 3 → kd (k + 1) = 1020 by decide +kernel) k hk h
theorem kf_3_2 {k : Nat} (h : kd k = 3) : kd (k + 2) = 1005 := by
  have hk := kd_lt h (by decide)
  exact (show ∀ k, k < 118 → kd k = 3 → kd (k + 2) = 1005 by decide +kernel) k hk h
theorem kf_4_1 {k : Nat} (h : kd k = 4) : kd (k + 1) = 1012 := by
  have hk := kd_lt h (by decide)
  exact (show ∀ k, k < 118 → kd k = 4 → kd (k + 1) = 1012 by decide +kernel) k hk h
theorem kf_4_2 {k : Nat} (h : kd k = 4) : kd (k + 2) = 1012 := by
  have hk := kd_lt h (by decide)
  exact (show ∀ k, k < 118 → kd k = 4 → kd (k + 2) = 1012 by decide +kernel) k hk h
theorem kf_5_1 {k : Nat} (h : kd k = 5) : kd (k + 1) = 1040 := by
  have hk := kd_lt h (by decide)
  exact (show ∀ k, k < 118 → kd k = 5 → kd (k + 1) = 1040 by decide +kernel) k hk h
theorem kf_5_2 {k : Nat} (h : kd k = 5) : kd (k + 2) = 1008 := by
  have hk := kd_lt h (by decide)
  exact (show ∀ k, k < 118 → kd k = 5 → kd (k + 2) = 1008 by decide +kernel) k hk h
theorem kf_8_1 {k : Nat} (h : kd k = 8) : kd (k + 1) = 1005 := by
  have hk := kd_lt h (by decide)
  exact (show ∀ k, k < 118 → kd k = 8 → kd (k + 1) = 1005 by decide +kernel) k hk h
theorem kf_8_2 {k : Nat} (h : kd k = 8) : kd (k + 2) = 1005 := by
  have hk := kd_lt h (by decide)
  exact (show ∀ k, k < 118 → kd k = 8 → kd (k + 2) = 1005 by decide +kernel) k hk h
section LINKS
variable {E : En} {G : Gm} {A : Nat → Prop} {cc : ByteArray} {nL fr lo kc ks : Nat} {ret : Option FieldType} {Q : State → Prop} {V : Wd} {pc : Nat} {lv : List (Nat × Value)} {st : List Value}
theorem gf_X0_9 {k : Nat} (F : Fx E G A RX0 cc nL ret fr lo kc ks) (hd : decode cc pc = .ok (.getfield 9, 3)) (hk : kd k = 4) (kk : Go E G A kc ks Q nL V (pc + 3) lv (.ref (AD G (k + 1)) :: st)) : Go E G A kc ks Q nL V pc lv (.ref (AD G k) :: st) :=
  go_get F hd (ci := 0) (C := RX0) (T := TX0) (N := 3) rfl ib0 0 (by decide) fl_X0_9 (kd_lt hk (by decide)) (by unfold wE; rw [hk]; rfl) rfl kk
theorem gf_X0_15 {k : Nat} (F : Fx E G A RX0 cc nL ret fr lo kc ks) (hd : decode cc pc = .ok (.getfield 15, 3)) (hk : kd k = 4) (kk : Go E G A kc ks Q nL V (pc + 3) lv (.ref (AD G (k + 2)) :: st)) : Go E G A kc ks Q nL V pc lv (.ref (AD G k) :: st) :=
  go_get F hd (ci := 0) (C := RX0) (T := TX0) (N := 3) rfl ib0 1 (by decide) fl_X0_15 (kd_lt hk (by decide)) (by unfold wE; rw [hk]; rfl) rfl kk
theorem gf_X0_18 {k : Nat} (F : Fx E G A RX0 cc nL ret fr lo kc ks) (hd : decode cc pc = .ok (.getfield 18, 3)) (hk : kd k = 4) (kk : Go E G A kc ks Q nL V (pc + 3) lv (.int (V k 2) :: st)) : Go E G A kc ks Q nL V pc lv (.ref (AD G k) :: st) :=
  go_get F hd (ci := 0) (C := RX0) (T := TX0) (N := 3) rfl ib0 2 (by decide) fl_X0_18 (kd_lt hk (by decide)) (by unfold wE; rw [hk]; rfl) rfl kk
theorem pf_X0_18 {α : Type} {f : Wd → α} {z : α} {k : Nat} {x : Int32} (F : Fx E G A RX0 cc nL ret fr lo kc ks) (hd : decode cc pc = .ok (.putfield 18, 3)) (hk : kd k = 4) (h : li_ (u2 V k 2 x) f = z) (kk : ∀ V1 : Wd, f V1 = z → Go E G A kc ks Q nL V1 (pc + 3) lv st) : Go E G A kc ks Q nL V pc lv (.int x :: .ref (AD G k) :: st) :=
  go_put F hd (ci := 0) (C := RX0) (T := TX0) (N := 3) (ty := .int) rfl ib0 tyX0 tyX0_ok nmX0 2 (by decide) fl_X0_18 rfl (by decide +kernel) rfl rfl (kd_lt hk (by decide)) (by unfold wE; rw [hk]; rfl) (Nat.le_of_ble_eq_true rfl) (by unfold wE; rw [hk]; rfl) (kk _ h)
theorem gf_X1_9 {k : Nat} (F : Fx E G A RX1 cc nL ret fr lo kc ks) (hd : decode cc pc = .ok (.getfield 9, 3)) (hk : kd k = 2) (kk : Go E G A kc ks Q nL V (pc + 3) lv (.ref (AD G (k + 1)) :: st)) : Go E G A kc ks Q nL V pc lv (.ref (AD G k) :: st) :=
  go_get F hd (ci := 1) (C := RX1) (T := TX1) (N := 3) rfl ib1 0 (by decide) fl_X1_9 (kd_lt hk (by decide)) (by unfold wE; rw [hk]; rfl) rfl kk
theorem gf_X1_15 {k : Nat} (F : Fx E G A RX1 cc nL ret fr lo kc ks) (hd : decode cc pc = .ok (.getfield 15, 3)) (hk : kd k = 2) (kk : Go E G A kc ks Q nL V (pc + 3) lv (.ref (AD G (k + 2)) :: st)) : Go E G A kc ks Q nL V pc lv (.ref (AD G k) :: st) :=
  go_get F hd (ci := 1) (C := RX1) (T := TX1) (N := 3) rfl ib1 1 (by decide) fl_X1_15 (kd_lt hk (by decide)) (by unfold wE; rw [hk]; rfl) rfl kk
theorem gf_X1_18 {k : Nat} (F : Fx E G A RX1 cc nL ret fr lo kc ks) (hd : decode cc pc = .ok (.getfield 18, 3)) (hk : kd k = 2) (kk : Go E G A kc ks Q nL V (pc + 3) lv (.ref (AD G (k + 3)) :: st)) : Go E G A kc ks Q nL V pc lv (.ref (AD G k) :: st) :=
  go_get F hd (ci := 1) (C := RX1) (T := TX1) (N := 3) rfl ib1 2 (by decide) fl_X1_18 (kd_lt hk (by decide)) (by unfold wE; rw [hk]; rfl) rfl kk
theorem gf_X2_11 {k : Nat} (F : Fx E G A RX2 cc nL ret fr lo kc ks) (hd : decode cc pc = .ok (.getfield 11, 3)) (hk : kd k = 6) (kk : Go E G A kc ks Q nL V (pc + 3) lv (.ref (AD G (k + 1)) :: st)) : Go E G A kc ks Q nL V pc lv (.ref (AD G k) :: st) :=
  go_get F hd (ci := 2) (C := RX2) (T := TX2) (N := 3) rfl ib2 0 (by decide) fl_X2_11 (kd_lt hk (by decide)) (by unfold wE; rw [hk]; rfl) rfl kk
theorem gf_X2_17 {k : Nat} (F : Fx E G A RX2 cc nL ret fr lo kc ks) (hd : decode cc pc = .ok (.getfield 17, 3)) (hk : kd k = 6) (kk : Go E G A kc ks Q nL V (pc + 3) lv (.int (V k 1) :: st)) : Go E G A kc ks Q nL V pc lv (.ref (AD G k) :: st) :=
  go_get F hd (ci := 2) (C := RX2) (T := TX2) (N := 3) rfl ib2 1 (by decide) fl_X2_17 (kd_lt hk (by decide)) (by unfold wE; rw [hk]; rfl) rfl kk
theorem pf_X2_17 {α : Type} {f : Wd → α} {z : α} {k : Nat} {x : Int32} (F : Fx E G A RX2 cc nL ret fr lo kc ks) (hd : decode cc pc = .ok (.putfield 17, 3)) (hk : kd k = 6) (h : li_ (u2 V k 1 x) f = z) (kk : ∀ V1 : Wd, f V1 = z → Go E G A kc ks Q nL V1 (pc + 3) lv st) : Go E G A kc ks Q nL V pc lv (.int x :: .ref (AD G k) :: st) :=
  go_put F hd (ci := 2) (C := RX2) (T := TX2) (N := 3) (ty := .int) rfl ib2 tyX2 tyX2_ok nmX2 1 (by decide) fl_X2_17 rfl (by decide +kernel) rfl rfl (kd_lt hk (by decide)) (by unfold wE; rw [hk]; rfl) (Nat.le_of_ble_eq_true rfl) (by unfold wE; rw [hk]; rfl) (kk _ h)
theorem gf_X2_21 {k : Nat} (F : Fx E G A RX2 cc nL ret fr lo kc ks) (hd : decode cc pc = .ok (.getfield 21, 3)) (hk : kd k = 6) (kk : Go E G A kc ks Q nL V (pc + 3) lv (.int (V k 2) :: st)) : Go E G A kc ks Q nL V pc lv (.ref (AD G k) :: st) :=
  go_get F hd (ci := 2) (C := RX2) (T := TX2) (N := 3) rfl ib2 2 (by decide) fl_X2_21 (kd_lt hk (by decide)) (by unfold wE; rw [hk]; rfl) rfl kk
theorem pf_X2_21 {α : Type} {f : Wd → α} {z : α} {k : Nat} {x : Int32} (F : Fx E G A RX2 cc nL ret fr lo kc ks) (hd : decode cc pc = .ok (.putfield 21, 3)) (hk : kd k = 6) (h : li_ (u2 V k 2 x) f = z) (kk : ∀ V1 : Wd, f V1 = z → Go E G A kc ks Q nL V1 (pc + 3) lv st) : Go E G A kc ks Q nL V pc lv (.int x :: .ref (AD G k) :: st) :=
  go_put F hd (ci := 2) (C := RX2) (T := TX2) (N := 3) (ty := .int) rfl ib2 tyX2 tyX2_ok nmX2 2 (by decide) fl_X2_21 rfl (by decide +kernel) rfl rfl (kd_lt hk (by decide)) (by unfold wE; rw [hk]; rfl) (Nat.le_of_ble_eq_true rfl) (by unfold wE; rw [hk]; rfl) (kk _ h)
theorem gf_X3_9 {k : Nat} (F : Fx E G A RX3 cc nL ret fr lo kc ks) (hd : decode cc pc = .ok (.getfield 9, 3)) (hk : kd k = 3) (kk : Go E G A kc ks Q nL V (pc + 3) lv (.ref (AD G (k + 1)) :: st)) : Go E G A kc ks Q nL V pc lv (.ref (AD G k) :: st) :=
  go_get F hd (ci := 3) (C := RX3) (T := TX3) (N := 2) rfl ib3 0 (by decide) fl_X3_9 (kd_lt hk (by decide)) (by unfold wE; rw [hk]; rfl) rfl kk
theorem gf_X3_15 {k : Nat} (F : Fx E G A RX3 cc nL ret fr lo kc ks) (hd : decode cc pc = .ok (.getfield 15, 3)) (hk : kd k = 3) (kk : Go E G A kc ks Q nL V (pc + 3) lv (.ref (AD G (k + 2)) :: st)) : Go E G A kc ks Q nL V pc lv (.ref (AD G k) :: st) :=
  go_get F hd (ci := 3) (C := RX3) (T := TX3) (N := 2) rfl ib3 1 (by decide) fl_X3_15 (kd_lt hk (by decide)) (by unfold wE; rw [hk]; rfl) rfl kk
theorem gf_X4_9 {k : Nat} (F : Fx E G A RX4 cc nL ret fr lo kc ks) (hd : decode cc pc = .ok (.getfield 9, 3)) (hk : kd k = 5) (kk : Go E G A kc ks Q nL V (pc + 3) lv (.ref (AD G (k + 1)) :: st)) : Go E G A kc ks Q nL V pc lv (.ref (AD G k) :: st) :=
  go_get F hd (ci := 4) (C := RX4) (T := TX4) (N := 4) rfl ib4 0 (by decide) fl_X4_9 (kd_lt hk (by decide)) (by unfold wE; rw [hk]; rfl) rfl kk
theorem gf_X4_15 {k : Nat} (F : Fx E G A RX4 cc nL ret fr lo kc ks) (hd : decode cc pc = .ok (.getfield 15, 3)) (hk : kd k = 5) (kk : Go E G A kc ks Q nL V (pc + 3) lv (.ref (AD G (k + 2)) :: st)) : Go E G A kc ks Q nL V pc lv (.ref (AD G k) :: st) :=
  go_get F hd (ci := 4) (C := RX4) (T := TX4) (N := 4) rfl ib4 1 (by decide) fl_X4_15 (kd_lt hk (by decide)) (by unfold wE; rw [hk]; rfl) rfl kk
theorem gf_X4_18 {k : Nat} (F : Fx E G A RX4 cc nL ret fr lo kc ks) (hd : decode cc pc = .ok (.getfield 18, 3)) (hk : kd k = 5) (kk : Go E G A kc ks Q nL V (pc + 3) lv (.int (V k 2) :: st)) : Go E G A kc ks Q nL V pc lv (.ref (AD G k) :: st) :=
  go_get F hd (ci := 4) (C := RX4) (T := TX4) (N := 4) rfl ib4 2 (by decide) fl_X4_18 (kd_lt hk (by decide)) (by unfold wE; rw [hk]; rfl) rfl kk
theorem pf_X4_18 {α : Type} {f : Wd → α} {z : α} {k : Nat} {x : Int32} (F : Fx E G A RX4 cc nL ret fr lo kc ks) (hd : decode cc pc = .ok (.putfield 18, 3)) (hk : kd k = 5) (h : li_ (u2 V k 2 x) f = z) (kk : ∀ V1 : Wd, f V1 = z → Go E G A kc ks Q nL V1 (pc + 3) lv st) : Go E G A kc ks Q nL V pc lv (.int x :: .ref (AD G k) :: st) :=
  go_put F hd (ci := 4) (C := RX4) (T := TX4) (N := 4) (ty := .int) rfl ib4 tyX4 tyX4_ok nmX4 2 (by decide) fl_X4_18 rfl (by decide +kernel) rfl rfl (kd_lt hk (by decide)) (by unfold wE; rw [hk]; rfl) (Nat.le_of_ble_eq_true rfl) (by unfold wE; rw [hk]; rfl) (kk _ h)
theorem gf_X4_22 {k : Nat} (F : Fx E G A RX4 cc nL ret fr lo kc ks) (hd : decode cc pc = .ok (.getfield 22, 3)) (hk : kd k = 5) (kk : Go E G A kc ks Q nL V (pc + 3) lv (.int (V k 3) :: st)) : Go E G A kc ks Q nL V pc lv (.ref (AD G k) :: st) :=
  go_get F hd (ci := 4) (C := RX4) (T := TX4) (N := 4) rfl ib4 3 (by decide) fl_X4_22 (kd_lt hk (by decide)) (by unfold wE; rw [hk]; rfl) rfl kk
theorem pf_X4_22 {α : Type} {f : Wd → α} {z : α} {k : Nat} {x : Int32} (F : Fx E G A RX4 cc nL ret fr lo kc ks) (hd : decode cc pc = .ok (.putfield 22, 3)) (hk : kd k = 5) (h : li_ (u2 V k 3 x) f = z) (kk : ∀ V1 : Wd, f V1 = z → Go E G A kc ks Q nL V1 (pc + 3) lv st) : Go E G A kc ks Q nL V pc lv (.int x :: .ref (AD G k) :: st) :=
  go_put F hd (ci := 4) (C := RX4) (T := TX4) (N := 4) (ty := .int) rfl ib4 tyX4 tyX4_ok nmX4 3 (by decide) fl_X4_22 rfl (by decide +kernel) rfl rfl (kd_lt hk (by decide)) (by unfold wE; rw [hk]; rfl) (Nat.le_of_ble_eq_true rfl) (by unfold wE; rw [hk]; rfl) (kk _ h)
theorem gf_X5_9 {k : Nat} (F : Fx E G A RX5 cc nL ret fr lo kc ks) (hd : decode cc pc = .ok (.getfield 9, 3)) (hk : kd k = 8) (kk : Go E G A kc ks Q nL V (pc + 3) lv (.ref (AD G (k + 1)) :: st)) : Go E G A kc ks Q nL V pc lv (.ref (AD G k) :: st) :=
  go_get F hd (ci := 5) (C := RX5) (T := TX5) (N := 4) rfl ib5 1 (by decide) fl_X5_9 (kd_lt hk (by decide)) (by unfold wE; rw [hk]; rfl) rfl kk
theorem gf_X5_15 {k : Nat} (F : Fx E G A RX5 cc nL ret fr lo kc ks) (hd : decode cc pc = .ok (.getfield 15, 3)) (hk : kd k = 8) (kk : Go E G A kc ks Q nL V (pc + 3) lv (.ref (AD G (k + 2)) :: st)) : Go E G A kc ks Q nL V pc lv (.ref (AD G k) :: st) :=
  go_get F hd (ci := 5) (C := RX5) (T := TX5) (N := 4) rfl ib5 2 (by decide) fl_X5_15 (kd_lt hk (by decide)) (by unfold wE; rw [hk]; rfl) rfl kk
theorem gf_X5_18 {k : Nat} (F : Fx E G A RX5 cc nL ret fr lo kc ks) (hd : decode cc pc = .ok (.getfield 18, 3)) (hk : kd k = 8) (kk : Go E G A kc ks Q nL V (pc + 3) lv (.int (V k 3) :: st)) : Go E G A kc ks Q nL V pc lv (.ref (AD G k) :: st) :=
  go_get F hd (ci := 5) (C := RX5) (T := TX5) (N := 4) rfl ib5 3 (by decide) fl_X5_18 (kd_lt hk (by decide)) (by unfold wE; rw [hk]; rfl) rfl kk
theorem pf_X5_18 {α : Type} {f : Wd → α} {z : α} {k : Nat} {x : Int32} (F : Fx E G A RX5 cc nL ret fr lo kc ks) (hd : decode cc pc = .ok (.putfield 18, 3)) (hk : kd k = 8) (h : li_ (u2 V k 3 x) f = z) (kk : ∀ V1 : Wd, f V1 = z → Go E G A kc ks Q nL V1 (pc + 3) lv st) : Go E G A kc ks Q nL V pc lv (.int x :: .ref (AD G k) :: st) :=
  go_put F hd (ci := 5) (C := RX5) (T := TX5) (N := 4) (ty := .int) rfl ib5 tyX5 tyX5_ok nmX5 3 (by decide) fl_X5_18 rfl (by decide +kernel) rfl rfl (kd_lt hk (by decide)) (by unfold wE; rw [hk]; rfl) (Nat.le_of_ble_eq_true rfl) (by unfold wE; rw [hk]; rfl) (kk _ h)
theorem gf_X5_22 {k : Nat} (F : Fx E G A RX5 cc nL ret fr lo kc ks) (hd : decode cc pc = .ok (.getfield 22, 3)) (hk : kd k = 8) (kk : Go E G A kc ks Q nL V (pc + 3) lv (.int (V k 0) :: st)) : Go E G A kc ks Q nL V pc lv (.ref (AD G k) :: st) :=
  go_get F hd (ci := 5) (C := RX5) (T := TX5) (N := 4) rfl ib5 0 (by decide) fl_X5_22 (kd_lt hk (by decide)) (by unfold wE; rw [hk]; rfl) rfl kk
theorem gf_X6_12 {k : Nat} (F : Fx E G A RX6 cc nL ret fr lo kc ks) (hd : decode cc pc = .ok (.getfield 12, 3)) (hk : kd k = 1) (kk : Go E G A kc ks Q nL V (pc + 3) lv (.ref (AD G (k + 1)) :: st)) : Go E G A kc ks Q nL V pc lv (.ref (AD G k) :: st) :=
  go_get F hd (ci := 6) (C := RX6) (T := TX6) (N := 9) rfl ib6 0 (by decide) fl_X6_12 (kd_lt hk (by decide)) (by unfold wE; rw [hk]; rfl) rfl kk
theorem gf_X6_21 {k : Nat} (F : Fx E G A RX6 cc nL ret fr lo kc ks) (hd : decode cc pc = .ok (.getfield 21, 3)) (hk : kd k = 1) (kk : Go E G A kc ks Q nL V (pc + 3) lv (.ref (AD G (k + 5)) :: st)) : Go E G A kc ks Q nL V pc lv (.ref (AD G k) :: st) :=
  go_get F hd (ci := 6) (C := RX6) (T := TX6) (N := 9) rfl ib6 1 (by decide) fl_X6_21 (kd_lt hk (by decide)) (by unfold wE; rw [hk]; rfl) rfl kk
theorem gf_X6_28 {k : Nat} (F : Fx E G A RX6 cc nL ret fr lo kc ks) (hd : decode cc pc = .ok (.getfield 28, 3)) (hk : kd k = 1) (kk : Go E G A kc ks Q nL V (pc + 3) lv (.ref (AD G (k + 8)) :: st)) : Go E G A kc ks Q nL V pc lv (.ref (AD G k) :: st) :=
  go_get F hd (ci := 6) (C := RX6) (T := TX6) (N := 9) rfl ib6 2 (by decide) fl_X6_28 (kd_lt hk (by decide)) (by unfold wE; rw [hk]; rfl) rfl kk
theorem gf_X6_35 {k : Nat} (F : Fx E G A RX6 cc nL ret fr lo kc ks) (hd : decode cc pc = .ok (.getfield 35, 3)) (hk : kd k = 1) (kk : Go E G A kc ks Q nL V (pc + 3) lv (.ref (AD G (k + 11)) :: st)) : Go E G A kc ks Q nL V pc lv (.ref (AD G k) :: st) :=
  go_get F hd (ci := 6) (C := RX6) (T := TX6) (N := 9) rfl ib6 3 (by decide) fl_X6_35 (kd_lt hk (by decide)) (by unfold wE; rw [hk]; rfl) rfl kk
theorem gf_X6_39 {k : Nat} (F : Fx E G A RX6 cc nL ret fr lo kc ks) (hd : decode cc pc = .ok (.getfield 39, 3)) (hk : kd k = 1) (kk : Go E G A kc ks Q nL V (pc + 3) lv (.int (V k 4) :: st)) : Go E G A kc ks Q nL V pc lv (.ref (AD G k) :: st) :=
  go_get F hd (ci := 6) (C := RX6) (T := TX6) (N := 9) rfl ib6 4 (by decide) fl_X6_39 (kd_lt hk (by decide)) (by unfold wE; rw [hk]; rfl) rfl kk
theorem pf_X6_39 {α : Type} {f : Wd → α} {z : α} {k : Nat} {x : Int32} (F : Fx E G A RX6 cc nL ret fr lo kc ks) (hd : decode cc pc = .ok (.putfield 39, 3)) (hk : kd k = 1) (h : li_ (u2 V k 4 x) f = z) (kk : ∀ V1 : Wd, f V1 = z → Go E G A kc ks Q nL V1 (pc + 3) lv st) : Go E G A kc ks Q nL V pc lv (.int x :: .ref (AD G k) :: st) :=
  go_put F hd (ci := 6) (C := RX6) (T := TX6) (N := 9) (ty := .int) rfl ib6 tyX6 tyX6_ok nmX6 4 (by decide) fl_X6_39 rfl (by decide +kernel) rfl rfl (kd_lt hk (by decide)) (by unfold wE; rw [hk]; rfl) (Nat.le_of_ble_eq_true rfl) (by unfold wE; rw [hk]; rfl) (kk _ h)
theorem gf_X6_43 {k : Nat} (F : Fx E G A RX6 cc nL ret fr lo kc ks) (hd : decode cc pc = .ok (.getfield 43, 3)) (hk : kd k = 1) (kk : Go E G A kc ks Q nL V (pc + 3) lv (.int (V k 5) :: st)) : Go E G A kc ks Q nL V pc lv (.ref (AD G k) :: st) :=
  go_get F hd (ci := 6) (C := RX6) (T := TX6) (N := 9) rfl ib6 5 (by decide) fl_X6_43 (kd_lt hk (by decide)) (by unfold wE; rw [hk]; rfl) rfl kk
theorem pf_X6_43 {α : Type} {f : Wd → α} {z : α} {k : Nat} {x : Int32} (F : Fx E G A RX6 cc nL ret fr lo kc ks) (hd : decode cc pc = .ok (.putfield 43, 3)) (hk : kd k = 1) (h : li_ (u2 V k 5 x) f = z) (kk : ∀ V1 : Wd, f V1 = z → Go E G A kc ks Q nL V1 (pc + 3) lv st) : Go E G A kc ks Q nL V pc lv (.int x :: .ref (AD G k) :: st) :=
  go_put F hd (ci := 6) (C := RX6) (T := TX6) (N := 9) (ty := .int) rfl ib6 tyX6 tyX6_ok nmX6 5 (by decide) fl_X6_43 rfl (by decide +kernel) rfl rfl (kd_lt hk (by decide)) (by unfold wE; rw [hk]; rfl) (Nat.le_of_ble_eq_true rfl) (by unfold wE; rw [hk]; rfl) (kk _ h)
theorem gf_X6_46 {k : Nat} (F : Fx E G A RX6 cc nL ret fr lo kc ks) (hd : decode cc pc = .ok (.getfield 46, 3)) (hk : kd k = 1) (kk : Go E G A kc ks Q nL V (pc + 3) lv (.int (V k 6) :: st)) : Go E G A kc ks Q nL V pc lv (.ref (AD G k) :: st) :=
  go_get F hd (ci := 6) (C := RX6) (T := TX6) (N := 9) rfl ib6 6 (by decide) fl_X6_46 (kd_lt hk (by decide)) (by unfold wE; rw [hk]; rfl) rfl kk
theorem pf_X6_46 {α : Type} {f : Wd → α} {z : α} {k : Nat} {x : Int32} (F : Fx E G A RX6 cc nL ret fr lo kc ks) (hd : decode cc pc = .ok (.putfield 46, 3)) (hk : kd k = 1) (h : li_ (u2 V k 6 x) f = z) (kk : ∀ V1 : Wd, f V1 = z → Go E G A kc ks Q nL V1 (pc + 3) lv st) : Go E G A kc ks Q nL V pc lv (.int x :: .ref (AD G k) :: st) :=
  go_put F hd (ci := 6) (C := RX6) (T := TX6) (N := 9) (ty := .int) rfl ib6 tyX6 tyX6_ok nmX6 6 (by decide) fl_X6_46 rfl (by decide +kernel) rfl rfl (kd_lt hk (by decide)) (by unfold wE; rw [hk]; rfl) (Nat.le_of_ble_eq_true rfl) (by unfold wE; rw [hk]; rfl) (kk _ h)
theorem gf_X6_49 {k : Nat} (F : Fx E G A RX6 cc nL ret fr lo kc ks) (hd : decode cc pc = .ok (.getfield 49, 3)) (hk : kd k = 1) (kk : Go E G A kc ks Q nL V (pc + 3) lv (.int (V k 7) :: st)) : Go E G A kc ks Q nL V pc lv (.ref (AD G k) :: st) :=
  go_get F hd (ci := 6) (C := RX6) (T := TX6) (N := 9) rfl ib6 7 (by decide) fl_X6_49 (kd_lt hk (by decide)) (by unfold wE; rw [hk]; rfl) rfl kk
theorem pf_X6_49 {α : Type} {f : Wd → α} {z : α} {k : Nat} {x : Int32} (F : Fx E G A RX6 cc nL ret fr lo kc ks) (hd : decode cc pc = .ok (.putfield 49, 3)) (hk : kd k = 1) (h : li_ (u2 V k 7 x) f = z) (kk : ∀ V1 : Wd, f V1 = z → Go E G A kc ks Q nL V1 (pc + 3) lv st) : Go E G A kc ks Q nL V pc lv (.int x :: .ref (AD G k) :: st) :=
  go_put F hd (ci := 6) (C := RX6) (T := TX6) (N := 9) (ty := .int) rfl ib6 tyX6 tyX6_ok nmX6 7 (by decide) fl_X6_49 rfl (by decide +kernel) rfl rfl (kd_lt hk (by decide)) (by unfold wE; rw [hk]; rfl) (Nat.le_of_ble_eq_true rfl) (by unfold wE; rw [hk]; rfl) (kk _ h)
theorem gf_X6_52 {k : Nat} (F : Fx E G A RX6 cc nL ret fr lo kc ks) (hd : decode cc pc = .ok (.getfield 52, 3)) (hk : kd k = 1) (kk : Go E G A kc ks Q nL V (pc + 3) lv (.int (V k 8) :: st)) : Go E G A kc ks Q nL V pc lv (.ref (AD G k) :: st) :=
  go_get F hd (ci := 6) (C := RX6) (T := TX6) (N := 9) rfl ib6 8 (by decide) fl_X6_52 (kd_lt hk (by decide)) (by unfold wE; rw [hk]; rfl) rfl kk
theorem pf_X6_52 {α : Type} {f : Wd → α} {z : α} {k : Nat} {x : Int32} (F : Fx E G A RX6 cc nL ret fr lo kc ks) (hd : decode cc pc = .ok (.putfield 52, 3)) (hk : kd k = 1) (h : li_ (u2 V k 8 x) f = z) (kk : ∀ V1 : Wd, f V1 = z → Go E G A kc ks Q nL V1 (pc + 3) lv st) : Go E G A kc ks Q nL V pc lv (.int x :: .ref (AD G k) :: st) :=
  go_put F hd (ci := 6) (C := RX6) (T := TX6) (N := 9) (ty := .int) rfl ib6 tyX6 tyX6_ok nmX6 8 (by decide) fl_X6_52 rfl (by decide +kernel) rfl rfl (kd_lt hk (by decide)) (by unfold wE; rw [hk]; rfl) (Nat.le_of_ble_eq_true rfl) (by unfold wE; rw [hk]; rfl) (kk _ h)
theorem gf_X7_9 {k : Nat} (F : Fx E G A RX7 cc nL ret fr lo kc ks) (hd : decode cc pc = .ok (.getfield 9, 3)) (hk : kd k = 7) (kk : Go E G A kc ks Q nL V (pc + 3) lv (.ref (AD G (k + 1)) :: st)) : Go E G A kc ks Q nL V pc lv (.ref (AD G k) :: st) :=
  go_get F hd (ci := 7) (C := RX7) (T := TX7) (N := 5) rfl ib7 0 (by decide) fl_X7_9 (kd_lt hk (by decide)) (by unfold wE; rw [hk]; rfl) rfl kk
theorem gf_X7_15 {k : Nat} (F : Fx E G A RX7 cc nL ret fr lo kc ks) (hd : decode cc pc = .ok (.getfield 15, 3)) (hk : kd k = 7) (kk : Go E G A kc ks Q nL V (pc + 3) lv (.int (V k 1) :: st)) : Go E G A kc ks Q nL V pc lv (.ref (AD G k) :: st) :=
  go_get F hd (ci := 7) (C := RX7) (T := TX7) (N := 5) rfl ib7 1 (by decide) fl_X7_15 (kd_lt hk (by decide)) (by unfold wE; rw [hk]; rfl) rfl kk
theorem pf_X7_15 {α : Type} {f : Wd → α} {z : α} {k : Nat} {x : Int32} (F : Fx E G A RX7 cc nL ret fr lo kc ks) (hd : decode cc pc = .ok (.putfield 15, 3)) (hk : kd k = 7) (h : li_ (u2 V k 1 x) f = z) (kk : ∀ V1 : Wd, f V1 = z → Go E G A kc ks Q nL V1 (pc + 3) lv st) : Go E G A kc ks Q nL V pc lv (.int x :: .ref (AD G k) :: st) :=
  go_put F hd (ci := 7) (C := RX7) (T := TX7) (N := 5) (ty := .int) rfl ib7 tyX7 tyX7_ok nmX7 1 (by decide) fl_X7_15 rfl (by decide +kernel) rfl rfl (kd_lt hk (by decide)) (by unfold wE; rw [hk]; rfl) (Nat.le_of_ble_eq_true rfl) (by unfold wE; rw [hk]; rfl) (kk _ h)
theorem gf_X7_22 {k : Nat} (F : Fx E G A RX7 cc nL ret fr lo kc ks) (hd : decode cc pc = .ok (.getfield 22, 3)) (hk : kd k = 7) (kk : Go E G A kc ks Q nL V (pc + 3) lv (.ref (AD G (k + 2)) :: st)) : Go E G A kc ks Q nL V pc lv (.ref (AD G k) :: st) :=
  go_get F hd (ci := 7) (C := RX7) (T := TX7) (N := 5) rfl ib7 2 (by decide) fl_X7_22 (kd_lt hk (by decide)) (by unfold wE; rw [hk]; rfl) rfl kk
theorem gf_X7_26 {k : Nat} (F : Fx E G A RX7 cc nL ret fr lo kc ks) (hd : decode cc pc = .ok (.getfield 26, 3)) (hk : kd k = 7) (kk : Go E G A kc ks Q nL V (pc + 3) lv (.int (V k 3) :: st)) : Go E G A kc ks Q nL V pc lv (.ref (AD G k) :: st) :=
  go_get F hd (ci := 7) (C := RX7) (T := TX7) (N := 5) rfl ib7 3 (by decide) fl_X7_26 (kd_lt hk (by decide)) (by unfold wE; rw [hk]; rfl) rfl kk
theorem pf_X7_26 {α : Type} {f : Wd → α} {z : α} {k : Nat} {x : Int32} (F : Fx E G A RX7 cc nL ret fr lo kc ks) (hd : decode cc pc = .ok (.putfield 26, 3)) (hk : kd k = 7) (h : li_ (u2 V k 3 x) f = z) (kk : ∀ V1 : Wd, f V1 = z → Go E G A kc ks Q nL V1 (pc + 3) lv st) : Go E G A kc ks Q nL V pc lv (.int x :: .ref (AD G k) :: st) :=
  go_put F hd (ci := 7) (C := RX7) (T := TX7) (N := 5) (ty := .int) rfl ib7 tyX7 tyX7_ok nmX7 3 (by decide) fl_X7_26 rfl (by decide +kernel) rfl rfl (kd_lt hk (by decide)) (by unfold wE; rw [hk]; rfl) (Nat.le_of_ble_eq_true rfl) (by unfold wE; rw [hk]; rfl) (kk _ h)
theorem gf_X7_29 {k : Nat} (F : Fx E G A RX7 cc nL ret fr lo kc ks) (hd : decode cc pc = .ok (.getfield 29, 3)) (hk : kd k = 7) (kk : Go E G A kc ks Q nL V (pc + 3) lv (.int (V k 4) :: st)) : Go E G A kc ks Q nL V pc lv (.ref (AD G k) :: st) :=
  go_get F hd (ci := 7) (C := RX7) (T := TX7) (N := 5) rfl ib7 4 (by decide) fl_X7_29 (kd_lt hk (by decide)) (by unfold wE; rw [hk]; rfl) rfl kk
theorem pf_X7_29 {α : Type} {f : Wd → α} {z : α} {k : Nat} {x : Int32} (F : Fx E G A RX7 cc nL ret fr lo kc ks) (hd : decode cc pc = .ok (.putfield 29, 3)) (hk : kd k = 7) (h : li_ (u2 V k 4 x) f = z) (kk : ∀ V1 : Wd, f V1 = z → Go E G A kc ks Q nL V1 (pc + 3) lv st) : Go E G A kc ks Q nL V pc lv (.int x :: .ref (AD G k) :: st) :=
  go_put F hd (ci := 7) (C := RX7) (T := TX7) (N := 5) (ty := .int) rfl ib7 tyX7 tyX7_ok nmX7 4 (by decide) fl_X7_29 rfl (by decide +kernel) rfl rfl (kd_lt hk (by decide)) (by unfold wE; rw [hk]; rfl) (Nat.le_of_ble_eq_true rfl) (by unfold wE; rw [hk]; rfl) (kk _ h)
theorem gf_X8_10 {k : Nat} (F : Fx E G A RX8 cc nL ret fr lo kc ks) (hd : decode cc pc = .ok (.getfield 10, 3)) (hk : kd k = 0) (kk : Go E G A kc ks Q nL V (pc + 3) lv (.ref (AD G 1) :: st)) : Go E G A kc ks Q nL V pc lv (.ref (AD G k) :: st) :=
  go_get F hd (ci := 8) (C := RX8) (T := TX8) (N := 7) rfl ib8 0 (by decide) fl_X8_10 (kd_lt hk (by decide)) (by unfold wE; rw [hk]; rfl) rfl kk
theorem gf_X8_16 {k : Nat} (F : Fx E G A RX8 cc nL ret fr lo kc ks) (hd : decode cc pc = .ok (.getfield 16, 3)) (hk : kd k = 0) (kk : Go E G A kc ks Q nL V (pc + 3) lv (.ref (AD G 15) :: st)) : Go E G A kc ks Q nL V pc lv (.ref (AD G k) :: st) :=
  go_get F hd (ci := 8) (C := RX8) (T := TX8) (N := 7) rfl ib8 1 (by decide) fl_X8_16 (kd_lt hk (by decide)) (by unfold wE; rw [hk]; rfl) rfl kk
theorem gf_X8_19 {k : Nat} (F : Fx E G A RX8 cc nL ret fr lo kc ks) (hd : decode cc pc = .ok (.getfield 19, 3)) (hk : kd k = 0) (kk : Go E G A kc ks Q nL V (pc + 3) lv (.int (V k 2) :: st)) : Go E G A kc ks Q nL V pc lv (.ref (AD G k) :: st) :=
  go_get F hd (ci := 8) (C := RX8) (T := TX8) (N := 7) rfl ib8 2 (by decide) fl_X8_19 (kd_lt hk (by decide)) (by unfold wE; rw [hk]; rfl) rfl kk
theorem pf_X8_19 {α : Type} {f : Wd → α} {z : α} {k : Nat} {x : Int32} (F : Fx E G A RX8 cc nL ret fr lo kc ks) (hd : decode cc pc = .ok (.putfield 19, 3)) (hk : kd k = 0) (hn : narrow .boolean (.int x) = .int x) (hf : fits .boolean (.int x) = true) (h : li_ (u2 V k 2 x) f = z) (kk : ∀ V1 : Wd, f V1 = z → Go E G A kc ks Q nL V1 (pc + 3) lv st) : Go E G A kc ks Q nL V pc lv (.int x :: .ref (AD G k) :: st) :=
  go_put F hd (ci := 8) (C := RX8) (T := TX8) (N := 7) (ty := .boolean) rfl ib8 tyX8 tyX8_ok nmX8 2 (by decide) fl_X8_19 rfl (by decide +kernel) hn hf (kd_lt hk (by decide)) (by unfold wE; rw [hk]; rfl) (Nat.le_of_ble_eq_true rfl) (by unfold wE; rw [hk]; rfl) (kk _ h)
theorem gf_X8_26 {k : Nat} (F : Fx E G A RX8 cc nL ret fr lo kc ks) (hd : decode cc pc = .ok (.getfield 26, 3)) (hk : kd k = 0) (kk : Go E G A kc ks Q nL V (pc + 3) lv (.ref (AD G 29) :: st)) : Go E G A kc ks Q nL V pc lv (.ref (AD G k) :: st) :=
  go_get F hd (ci := 8) (C := RX8) (T := TX8) (N := 7) rfl ib8 3 (by decide) fl_X8_26 (kd_lt hk (by decide)) (by unfold wE; rw [hk]; rfl) rfl kk
theorem gf_X8_33 {k : Nat} (F : Fx E G A RX8 cc nL ret fr lo kc ks) (hd : decode cc pc = .ok (.getfield 33, 3)) (hk : kd k = 0) (kk : Go E G A kc ks Q nL V (pc + 3) lv (.ref (AD G 101) :: st)) : Go E G A kc ks Q nL V pc lv (.ref (AD G k) :: st) :=
  go_get F hd (ci := 8) (C := RX8) (T := TX8) (N := 7) rfl ib8 4 (by decide) fl_X8_33 (kd_lt hk (by decide)) (by unfold wE; rw [hk]; rfl) rfl kk
theorem gf_X8_42 {k : Nat} (F : Fx E G A RX8 cc nL ret fr lo kc ks) (hd : decode cc pc = .ok (.getfield 42, 3)) (hk : kd k = 0) (kk : Go E G A kc ks Q nL V (pc + 3) lv (.ref (AD G 106) :: st)) : Go E G A kc ks Q nL V pc lv (.ref (AD G k) :: st) :=
  go_get F hd (ci := 8) (C := RX8) (T := TX8) (N := 7) rfl ib8 5 (by decide) fl_X8_42 (kd_lt hk (by decide)) (by unfold wE; rw [hk]; rfl) rfl kk
theorem gf_X8_46 {k : Nat} (F : Fx E G A RX8 cc nL ret fr lo kc ks) (hd : decode cc pc = .ok (.getfield 46, 3)) (hk : kd k = 0) (kk : Go E G A kc ks Q nL V (pc + 3) lv (.ref (AD G 109) :: st)) : Go E G A kc ks Q nL V pc lv (.ref (AD G k) :: st) :=
  go_get F hd (ci := 8) (C := RX8) (T := TX8) (N := 7) rfl ib8 6 (by decide) fl_X8_46 (kd_lt hk (by decide)) (by unfold wE; rw [hk]; rfl) rfl kk
theorem gf_X8_56 {k : Nat} (F : Fx E G A RX8 cc nL ret fr lo kc ks) (hd : decode cc pc = .ok (.getfield 56, 3)) (hk : kd k = 1) (kk : Go E G A kc ks Q nL V (pc + 3) lv (.ref (AD G (k + 1)) :: st)) : Go E G A kc ks Q nL V pc lv (.ref (AD G k) :: st) :=
  go_get F hd (ci := 6) (C := RX6) (T := TX6) (N := 9) rfl ib6 0 (by decide) fl_X8_56 (kd_lt hk (by decide)) (by unfold wE; rw [hk]; rfl) rfl kk
theorem gf_X8_70 {k : Nat} (F : Fx E G A RX8 cc nL ret fr lo kc ks) (hd : decode cc pc = .ok (.getfield 70, 3)) (hk : kd k = 1) (kk : Go E G A kc ks Q nL V (pc + 3) lv (.ref (AD G (k + 5)) :: st)) : Go E G A kc ks Q nL V pc lv (.ref (AD G k) :: st) :=
  go_get F hd (ci := 6) (C := RX6) (T := TX6) (N := 9) rfl ib6 1 (by decide) fl_X8_70 (kd_lt hk (by decide)) (by unfold wE; rw [hk]; rfl) rfl kk
theorem gf_X8_84 {k : Nat} (F : Fx E G A RX8 cc nL ret fr lo kc ks) (hd : decode cc pc = .ok (.getfield 84, 3)) (hk : kd k = 1) (kk : Go E G A kc ks Q nL V (pc + 3) lv (.int (V k 4) :: st)) : Go E G A kc ks Q nL V pc lv (.ref (AD G k) :: st) :=
  go_get F hd (ci := 6) (C := RX6) (T := TX6) (N := 9) rfl ib6 4 (by decide) fl_X8_84 (kd_lt hk (by decide)) (by unfold wE; rw [hk]; rfl) rfl kk
theorem pf_X8_84 {α : Type} {f : Wd → α} {z : α} {k : Nat} {x : Int32} (F : Fx E G A RX8 cc nL ret fr lo kc ks) (hd : decode cc pc = .ok (.putfield 84, 3)) (hk : kd k = 1) (h : li_ (u2 V k 4 x) f = z) (kk : ∀ V1 : Wd, f V1 = z → Go E G A kc ks Q nL V1 (pc + 3) lv st) : Go E G A kc ks Q nL V pc lv (.int x :: .ref (AD G k) :: st) :=
  go_put F hd (ci := 6) (C := RX6) (T := TX6) (N := 9) (ty := .int) rfl ib6 tyX6 tyX6_ok nmX6 4 (by decide) fl_X8_84 rfl (by decide +kernel) rfl rfl (kd_lt hk (by decide)) (by unfold wE; rw [hk]; rfl) (Nat.le_of_ble_eq_true rfl) (by unfold wE; rw [hk]; rfl) (kk _ h)
theorem gf_X8_88 {k : Nat} (F : Fx E G A RX8 cc nL ret fr lo kc ks) (hd : decode cc pc = .ok (.getfield 88, 3)) (hk : kd k = 1) (kk : Go E G A kc ks Q nL V (pc + 3) lv (.int (V k 5) :: st)) : Go E G A kc ks Q nL V pc lv (.ref (AD G k) :: st) :=
  go_get F hd (ci := 6) (C := RX6) (T := TX6) (N := 9) rfl ib6 5 (by decide) fl_X8_88 (kd_lt hk (by decide)) (by unfold wE; rw [hk]; rfl) rfl kk
theorem pf_X8_88 {α : Type} {f : Wd → α} {z : α} {k : Nat} {x : Int32} (F : Fx E G A RX8 cc nL ret fr lo kc ks) (hd : decode cc pc = .ok (.putfield 88, 3)) (hk : kd k = 1) (h : li_ (u2 V k 5 x) f = z) (kk : ∀ V1 : Wd, f V1 = z → Go E G A kc ks Q nL V1 (pc + 3) lv st) : Go E G A kc ks Q nL V pc lv (.int x :: .ref (AD G k) :: st) :=
  go_put F hd (ci := 6) (C := RX6) (T := TX6) (N := 9) (ty := .int) rfl ib6 tyX6 tyX6_ok nmX6 5 (by decide) fl_X8_88 rfl (by decide +kernel) rfl rfl (kd_lt hk (by decide)) (by unfold wE; rw [hk]; rfl) (Nat.le_of_ble_eq_true rfl) (by unfold wE; rw [hk]; rfl) (kk _ h)
theorem gf_X8_91 {k : Nat} (F : Fx E G A RX8 cc nL ret fr lo kc ks) (hd : decode cc pc = .ok (.getfield 91, 3)) (hk : kd k = 1) (kk : Go E G A kc ks Q nL V (pc + 3) lv (.int (V k 6) :: st)) : Go E G A kc ks Q nL V pc lv (.ref (AD G k) :: st) :=
  go_get F hd (ci := 6) (C := RX6) (T := TX6) (N := 9) rfl ib6 6 (by decide) fl_X8_91 (kd_lt hk (by decide)) (by unfold wE; rw [hk]; rfl) rfl kk
theorem pf_X8_91 {α : Type} {f : Wd → α} {z : α} {k : Nat} {x : Int32} (F : Fx E G A RX8 cc nL ret fr lo kc ks) (hd : decode cc pc = .ok (.putfield 91, 3)) (hk : kd k = 1) (h : li_ (u2 V k 6 x) f = z) (kk : ∀ V1 : Wd, f V1 = z → Go E G A kc ks Q nL V1 (pc + 3) lv st) : Go E G A kc ks Q nL V pc lv (.int x :: .ref (AD G k) :: st) :=
  go_put F hd (ci := 6) (C := RX6) (T := TX6) (N := 9) (ty := .int) rfl ib6 tyX6 tyX6_ok nmX6 6 (by decide) fl_X8_91 rfl (by decide +kernel) rfl rfl (kd_lt hk (by decide)) (by unfold wE; rw [hk]; rfl) (Nat.le_of_ble_eq_true rfl) (by unfold wE; rw [hk]; rfl) (kk _ h)
theorem gf_X8_127 {k : Nat} (F : Fx E G A RX8 cc nL ret fr lo kc ks) (hd : decode cc pc = .ok (.getfield 127, 3)) (hk : kd k = 1) (kk : Go E G A kc ks Q nL V (pc + 3) lv (.int (V k 8) :: st)) : Go E G A kc ks Q nL V pc lv (.ref (AD G k) :: st) :=
  go_get F hd (ci := 6) (C := RX6) (T := TX6) (N := 9) rfl ib6 8 (by decide) fl_X8_127 (kd_lt hk (by decide)) (by unfold wE; rw [hk]; rfl) rfl kk
theorem pf_X8_127 {α : Type} {f : Wd → α} {z : α} {k : Nat} {x : Int32} (F : Fx E G A RX8 cc nL ret fr lo kc ks) (hd : decode cc pc = .ok (.putfield 127, 3)) (hk : kd k = 1) (h : li_ (u2 V k 8 x) f = z) (kk : ∀ V1 : Wd, f V1 = z → Go E G A kc ks Q nL V1 (pc + 3) lv st) : Go E G A kc ks Q nL V pc lv (.int x :: .ref (AD G k) :: st) :=
  go_put F hd (ci := 6) (C := RX6) (T := TX6) (N := 9) (ty := .int) rfl ib6 tyX6 tyX6_ok nmX6 8 (by decide) fl_X8_127 rfl (by decide +kernel) rfl rfl (kd_lt hk (by decide)) (by unfold wE; rw [hk]; rfl) (Nat.le_of_ble_eq_true rfl) (by unfold wE; rw [hk]; rfl) (kk _ h)
theorem gf_X8_130 {k : Nat} (F : Fx E G A RX8 cc nL ret fr lo kc ks) (hd : decode cc pc = .ok (.getfield 130, 3)) (hk : kd k = 1) (kk : Go E G A kc ks Q nL V (pc + 3) lv (.int (V k 7) :: st)) : Go E G A kc ks Q nL V pc lv (.ref (AD G k) :: st) :=
  go_get F hd (ci := 6) (C := RX6) (T := TX6) (N := 9) rfl ib6 7 (by decide) fl_X8_130 (kd_lt hk (by decide)) (by unfold wE; rw [hk]; rfl) rfl kk
theorem pf_X8_130 {α : Type} {f : Wd → α} {z : α} {k : Nat} {x : Int32} (F : Fx E G A RX8 cc nL ret fr lo kc ks) (hd : decode cc pc = .ok (.putfield 130, 3)) (hk : kd k = 1) (h : li_ (u2 V k 7 x) f = z) (kk : ∀ V1 : Wd, f V1 = z → Go E G A kc ks Q nL V1 (pc + 3) lv st) : Go E G A kc ks Q nL V pc lv (.int x :: .ref (AD G k) :: st) :=
  go_put F hd (ci := 6) (C := RX6) (T := TX6) (N := 9) (ty := .int) rfl ib6 tyX6 tyX6_ok nmX6 7 (by decide) fl_X8_130 rfl (by decide +kernel) rfl rfl (kd_lt hk (by decide)) (by unfold wE; rw [hk]; rfl) (Nat.le_of_ble_eq_true rfl) (by unfold wE; rw [hk]; rfl) (kk _ h)
theorem gf_X8_140 {k : Nat} (F : Fx E G A RX8 cc nL ret fr lo kc ks) (hd : decode cc pc = .ok (.getfield 140, 3)) (hk : kd k = 1) (kk : Go E G A kc ks Q nL V (pc + 3) lv (.ref (AD G (k + 11)) :: st)) : Go E G A kc ks Q nL V pc lv (.ref (AD G k) :: st) :=
  go_get F hd (ci := 6) (C := RX6) (T := TX6) (N := 9) rfl ib6 3 (by decide) fl_X8_140 (kd_lt hk (by decide)) (by unfold wE; rw [hk]; rfl) rfl kk
theorem gf_X8_144 {k : Nat} (F : Fx E G A RX8 cc nL ret fr lo kc ks) (hd : decode cc pc = .ok (.getfield 144, 3)) (hk : kd k = 8) (kk : Go E G A kc ks Q nL V (pc + 3) lv (.ref (AD G (k + 2)) :: st)) : Go E G A kc ks Q nL V pc lv (.ref (AD G k) :: st) :=
  go_get F hd (ci := 5) (C := RX5) (T := TX5) (N := 4) rfl ib5 2 (by decide) fl_X8_144 (kd_lt hk (by decide)) (by unfold wE; rw [hk]; rfl) rfl kk
theorem gf_X8_168 {k : Nat} (F : Fx E G A RX8 cc nL ret fr lo kc ks) (hd : decode cc pc = .ok (.getfield 168, 3)) (hk : kd k = 1) (kk : Go E G A kc ks Q nL V (pc + 3) lv (.ref (AD G (k + 8)) :: st)) : Go E G A kc ks Q nL V pc lv (.ref (AD G k) :: st) :=
  go_get F hd (ci := 6) (C := RX6) (T := TX6) (N := 9) rfl ib6 2 (by decide) fl_X8_168 (kd_lt hk (by decide)) (by unfold wE; rw [hk]; rfl) rfl kk
theorem gf_X8_240 {k : Nat} (F : Fx E G A RX8 cc nL ret fr lo kc ks) (hd : decode cc pc = .ok (.getfield 240, 3)) (hk : kd k = 7) (kk : Go E G A kc ks Q nL V (pc + 3) lv (.ref (AD G (k + 2)) :: st)) : Go E G A kc ks Q nL V pc lv (.ref (AD G k) :: st) :=
  go_get F hd (ci := 7) (C := RX7) (T := TX7) (N := 5) rfl ib7 2 (by decide) fl_X8_240 (kd_lt hk (by decide)) (by unfold wE; rw [hk]; rfl) rfl kk
theorem gf_X9_7 {k : Nat} (F : Fx E G A RX9 cc nL ret fr lo kc ks) (hd : decode cc pc = .ok (.getfield 7, 3)) (hk : kd k = 9) (kk : Go E G A kc ks Q nL V (pc + 3) lv (.ref (AD G (k + 1)) :: st)) : Go E G A kc ks Q nL V pc lv (.ref (AD G k) :: st) :=
  go_get F hd (ci := 9) (C := RX9) (T := TX9) (N := 11) rfl ib9 0 (by decide) fl_X9_7 (kd_lt hk (by decide)) (by unfold wE; rw [hk]; rfl) rfl kk
theorem gf_X9_13 {k : Nat} (F : Fx E G A RX9 cc nL ret fr lo kc ks) (hd : decode cc pc = .ok (.getfield 13, 3)) (hk : kd k = 9) (kk : Go E G A kc ks Q nL V (pc + 3) lv (.ref (AD G (k + 2)) :: st)) : Go E G A kc ks Q nL V pc lv (.ref (AD G k) :: st) :=
  go_get F hd (ci := 9) (C := RX9) (T := TX9) (N := 11) rfl ib9 1 (by decide) fl_X9_13 (kd_lt hk (by decide)) (by unfold wE; rw [hk]; rfl) rfl kk
theorem gf_X9_16 {k : Nat} (F : Fx E G A RX9 cc nL ret fr lo kc ks) (hd : decode cc pc = .ok (.getfield 16, 3)) (hk : kd k = 9) (kk : Go E G A kc ks Q nL V (pc + 3) lv (.ref (AD G (k + 3)) :: st)) : Go E G A kc ks Q nL V pc lv (.ref (AD G k) :: st) :=
  go_get F hd (ci := 9) (C := RX9) (T := TX9) (N := 11) rfl ib9 3 (by decide) fl_X9_16 (kd_lt hk (by decide)) (by unfold wE; rw [hk]; rfl) rfl kk
theorem gf_X9_19 {k : Nat} (F : Fx E G A RX9 cc nL ret fr lo kc ks) (hd : decode cc pc = .ok (.getfield 19, 3)) (hk : kd k = 9) (kk : Go E G A kc ks Q nL V (pc + 3) lv (.ref (AD G (k + 4)) :: st)) : Go E G A kc ks Q nL V pc lv (.ref (AD G k) :: st) :=
  go_get F hd (ci := 9) (C := RX9) (T := TX9) (N := 11) rfl ib9 5 (by decide) fl_X9_19 (kd_lt hk (by decide)) (by unfold wE; rw [hk]; rfl) rfl kk
theorem gf_X9_23 {k : Nat} (F : Fx E G A RX9 cc nL ret fr lo kc ks) (hd : decode cc pc = .ok (.getfield 23, 3)) (hk : kd k = 9) (kk : Go E G A kc ks Q nL V (pc + 3) lv (.ref (AD G (k + 5)) :: st)) : Go E G A kc ks Q nL V pc lv (.ref (AD G k) :: st) :=
  go_get F hd (ci := 9) (C := RX9) (T := TX9) (N := 11) rfl ib9 7 (by decide) fl_X9_23 (kd_lt hk (by decide)) (by unfold wE; rw [hk]; rfl) rfl kk
theorem gf_X9_30 {k : Nat} (F : Fx E G A RX9 cc nL ret fr lo kc ks) (hd : decode cc pc = .ok (.getfield 30, 3)) (hk : kd k = 9) (kk : Go E G A kc ks Q nL V (pc + 3) lv (.int (V k 2) :: st)) : Go E G A kc ks Q nL V pc lv (.ref (AD G k) :: st) :=
  go_get F hd (ci := 9) (C := RX9) (T := TX9) (N := 11) rfl ib9 2 (by decide) fl_X9_30 (kd_lt hk (by decide)) (by unfold wE; rw [hk]; rfl) rfl kk
theorem pf_X9_30 {α : Type} {f : Wd → α} {z : α} {k : Nat} {x : Int32} (F : Fx E G A RX9 cc nL ret fr lo kc ks) (hd : decode cc pc = .ok (.putfield 30, 3)) (hk : kd k = 9) (h : li_ (u2 V k 2 x) f = z) (kk : ∀ V1 : Wd, f V1 = z → Go E G A kc ks Q nL V1 (pc + 3) lv st) : Go E G A kc ks Q nL V pc lv (.int x :: .ref (AD G k) :: st) :=
  go_put F hd (ci := 9) (C := RX9) (T := TX9) (N := 11) (ty := .int) rfl ib9 tyX9 tyX9_ok nmX9 2 (by decide) fl_X9_30 rfl (by decide +kernel) rfl rfl (kd_lt hk (by decide)) (by unfold wE; rw [hk]; rfl) (Nat.le_of_ble_eq_true rfl) (by unfold wE; rw [hk]; rfl) (kk _ h)
theorem gf_X9_41 {k : Nat} (F : Fx E G A RX9 cc nL ret fr lo kc ks) (hd : decode cc pc = .ok (.getfield 41, 3)) (hk : kd k = 9) (kk : Go E G A kc ks Q nL V (pc + 3) lv (.int (V k 4) :: st)) : Go E G A kc ks Q nL V pc lv (.ref (AD G k) :: st) :=
  go_get F hd (ci := 9) (C := RX9) (T := TX9) (N := 11) rfl ib9 4 (by decide) fl_X9_41 (kd_lt hk (by decide)) (by unfold wE; rw [hk]; rfl) rfl kk
theorem pf_X9_41 {α : Type} {f : Wd → α} {z : α} {k : Nat} {x : Int32} (F : Fx E G A RX9 cc nL ret fr lo kc ks) (hd : decode cc pc = .ok (.putfield 41, 3)) (hk : kd k = 9) (hn : narrow .boolean (.int x) = .int x) (hf : fits .boolean (.int x) = true) (h : li_ (u2 V k 4 x) f = z) (kk : ∀ V1 : Wd, f V1 = z → Go E G A kc ks Q nL V1 (pc + 3) lv st) : Go E G A kc ks Q nL V pc lv (.int x :: .ref (AD G k) :: st) :=
  go_put F hd (ci := 9) (C := RX9) (T := TX9) (N := 11) (ty := .boolean) rfl ib9 tyX9 tyX9_ok nmX9 4 (by decide) fl_X9_41 rfl (by decide +kernel) hn hf (kd_lt hk (by decide)) (by unfold wE; rw [hk]; rfl) (Nat.le_of_ble_eq_true rfl) (by unfold wE; rw [hk]; rfl) (kk _ h)
theorem gf_X9_143 {k : Nat} (F : Fx E G A RX9 cc nL ret fr lo kc ks) (hd : decode cc pc = .ok (.getfield 143, 3)) (hk : kd k = 9) (kk : Go E G A kc ks Q nL V (pc + 3) lv (.int (V k 6) :: st)) : Go E G A kc ks Q nL V pc lv (.ref (AD G k) :: st) :=
  go_get F hd (ci := 9) (C := RX9) (T := TX9) (N := 11) rfl ib9 6 (by decide) fl_X9_143 (kd_lt hk (by decide)) (by unfold wE; rw [hk]; rfl) rfl kk
theorem pf_X9_143 {α : Type} {f : Wd → α} {z : α} {k : Nat} {x : Int32} (F : Fx E G A RX9 cc nL ret fr lo kc ks) (hd : decode cc pc = .ok (.putfield 143, 3)) (hk : kd k = 9) (h : li_ (u2 V k 6 x) f = z) (kk : ∀ V1 : Wd, f V1 = z → Go E G A kc ks Q nL V1 (pc + 3) lv st) : Go E G A kc ks Q nL V pc lv (.int x :: .ref (AD G k) :: st) :=
  go_put F hd (ci := 9) (C := RX9) (T := TX9) (N := 11) (ty := .int) rfl ib9 tyX9 tyX9_ok nmX9 6 (by decide) fl_X9_143 rfl (by decide +kernel) rfl rfl (kd_lt hk (by decide)) (by unfold wE; rw [hk]; rfl) (Nat.le_of_ble_eq_true rfl) (by unfold wE; rw [hk]; rfl) (kk _ h)
theorem gf_X9_146 {k : Nat} (F : Fx E G A RX9 cc nL ret fr lo kc ks) (hd : decode cc pc = .ok (.getfield 146, 3)) (hk : kd k = 9) (kk : Go E G A kc ks Q nL V (pc + 3) lv (.int (V k 9) :: st)) : Go E G A kc ks Q nL V pc lv (.ref (AD G k) :: st) :=
  go_get F hd (ci := 9) (C := RX9) (T := TX9) (N := 11) rfl ib9 9 (by decide) fl_X9_146 (kd_lt hk (by decide)) (by unfold wE; rw [hk]; rfl) rfl kk
theorem pf_X9_146 {α : Type} {f : Wd → α} {z : α} {k : Nat} {x : Int32} (F : Fx E G A RX9 cc nL ret fr lo kc ks) (hd : decode cc pc = .ok (.putfield 146, 3)) (hk : kd k = 9) (h : li_ (u2 V k 9 x) f = z) (kk : ∀ V1 : Wd, f V1 = z → Go E G A kc ks Q nL V1 (pc + 3) lv st) : Go E G A kc ks Q nL V pc lv (.int x :: .ref (AD G k) :: st) :=
  go_put F hd (ci := 9) (C := RX9) (T := TX9) (N := 11) (ty := .int) rfl ib9 tyX9 tyX9_ok nmX9 9 (by decide) fl_X9_146 rfl (by decide +kernel) rfl rfl (kd_lt hk (by decide)) (by unfold wE; rw [hk]; rfl) (Nat.le_of_ble_eq_true rfl) (by unfold wE; rw [hk]; rfl) (kk _ h)
theorem gf_X9_149 {k : Nat} (F : Fx E G A RX9 cc nL ret fr lo kc ks) (hd : decode cc pc = .ok (.getfield 149, 3)) (hk : kd k = 9) (kk : Go E G A kc ks Q nL V (pc + 3) lv (.int (V k 10) :: st)) : Go E G A kc ks Q nL V pc lv (.ref (AD G k) :: st) :=
  go_get F hd (ci := 9) (C := RX9) (T := TX9) (N := 11) rfl ib9 10 (by decide) fl_X9_149 (kd_lt hk (by decide)) (by unfold wE; rw [hk]; rfl) rfl kk
theorem pf_X9_149 {α : Type} {f : Wd → α} {z : α} {k : Nat} {x : Int32} (F : Fx E G A RX9 cc nL ret fr lo kc ks) (hd : decode cc pc = .ok (.putfield 149, 3)) (hk : kd k = 9) (h : li_ (u2 V k 10 x) f = z) (kk : ∀ V1 : Wd, f V1 = z → Go E G A kc ks Q nL V1 (pc + 3) lv st) : Go E G A kc ks Q nL V pc lv (.int x :: .ref (AD G k) :: st) :=
  go_put F hd (ci := 9) (C := RX9) (T := TX9) (N := 11) (ty := .int) rfl ib9 tyX9 tyX9_ok nmX9 10 (by decide) fl_X9_149 rfl (by decide +kernel) rfl rfl (kd_lt hk (by decide)) (by unfold wE; rw [hk]; rfl) (Nat.le_of_ble_eq_true rfl) (by unfold wE; rw [hk]; rfl) (kk _ h)
theorem gf_X9_165 {k : Nat} (F : Fx E G A RX9 cc nL ret fr lo kc ks) (hd : decode cc pc = .ok (.getfield 165, 3)) (hk : kd k = 9) (kk : Go E G A kc ks Q nL V (pc + 3) lv (.int (V k 8) :: st)) : Go E G A kc ks Q nL V pc lv (.ref (AD G k) :: st) :=
  go_get F hd (ci := 9) (C := RX9) (T := TX9) (N := 11) rfl ib9 8 (by decide) fl_X9_165 (kd_lt hk (by decide)) (by unfold wE; rw [hk]; rfl) rfl kk
theorem pf_X9_165 {α : Type} {f : Wd → α} {z : α} {k : Nat} {x : Int32} (F : Fx E G A RX9 cc nL ret fr lo kc ks) (hd : decode cc pc = .ok (.putfield 165, 3)) (hk : kd k = 9) (h : li_ (u2 V k 8 x) f = z) (kk : ∀ V1 : Wd, f V1 = z → Go E G A kc ks Q nL V1 (pc + 3) lv st) : Go E G A kc ks Q nL V pc lv (.int x :: .ref (AD G k) :: st) :=
  go_put F hd (ci := 9) (C := RX9) (T := TX9) (N := 11) (ty := .int) rfl ib9 tyX9 tyX9_ok nmX9 8 (by decide) fl_X9_165 rfl (by decide +kernel) rfl rfl (kd_lt hk (by decide)) (by unfold wE; rw [hk]; rfl) (Nat.le_of_ble_eq_true rfl) (by unfold wE; rw [hk]; rfl) (kk _ h)
theorem cv_L_13 {k : Nat} {x0 : Int32} {x1 : Int32} {x2 : Int32} {x3 : Int32} {f1 l1 : Nat} {V1 : Wd} {r : Int32} (F : Fx E G A RL cc nL ret fr lo kc ks) (hd : decode cc pc = .ok (.invokevirtual 13, 3)) (hk : kd k = 0) (hM : Ct (enL E) G yX8_paint cX8_paint 5 (some .int) f1 l1 [.ref (AD G k), .int x0, .int x1, .int x2, .int x3] V (some (.int r)) V1) (hfr : f1 + 1 ≤ fr) (hlo : 8 + (5 + 11) + l1 ≤ lo) (hst : (st.map fun v => v.category).sum ≤ 8) (kk : Go E G A kc ks Q nL V1 (pc + 3) lv (.int r :: st)) : Go E G A kc ks Q nL V pc lv (.int x3 :: .int x2 :: .int x1 :: .int x0 :: .ref (AD G k) :: st) :=
  go_callV (y := yX8_paint) (As := [.int x0, .int x1, .int x2, .int x3]) (ci := 8) (C := RX8) (T := TX8) (N := 7) F hd ml_L_13 cw_X8_paint im_X8_paint se_X8_paint in_X8 ⟨by decide +kernel, by decide +kernel, (by decide +kernel : (parseMethodDescriptor yX8_paint.desc).map (fun d => d.parameters.length) = some 4)⟩ (kd_lt hk (by decide)) (by unfold wE; rw [hk]; rfl) rfl hM hfr hlo hst rfl kk
theorem cv_L_17 {k : Nat} {x0 : Int32} {x1 : Int32} {x2 : Int32} {x3 : Int32} {f1 l1 : Nat} {V1 : Wd} {r : Int32} (F : Fx E G A RL cc nL ret fr lo kc ks) (hd : decode cc pc = .ok (.invokevirtual 17, 3)) (hk : kd k = 9) (hM : Ct (enL E) G yX9_paint cX9_paint 7 (some .int) f1 l1 [.ref (AD G k), .int x0, .int x1, .int x2, .int x3] V (some (.int r)) V1) (hfr : f1 + 1 ≤ fr) (hlo : 8 + (7 + 11) + l1 ≤ lo) (hst : (st.map fun v => v.category).sum ≤ 8) (kk : Go E G A kc ks Q nL V1 (pc + 3) lv (.int r :: st)) : Go E G A kc ks Q nL V pc lv (.int x3 :: .int x2 :: .int x1 :: .int x0 :: .ref (AD G k) :: st) :=
  go_callV (y := yX9_paint) (As := [.int x0, .int x1, .int x2, .int x3]) (ci := 9) (C := RX9) (T := TX9) (N := 11) F hd ml_L_17 cw_X9_paint im_X9_paint se_X9_paint in_X9 ⟨by decide +kernel, by decide +kernel, (by decide +kernel : (parseMethodDescriptor yX9_paint.desc).map (fun d => d.parameters.length) = some 4)⟩ (kd_lt hk (by decide)) (by unfold wE; rw [hk]; rfl) rfl hM hfr hlo hst rfl kk
theorem cv_L_18 {k : Nat} {x0 : Int32} {f1 l1 : Nat} {V1 : Wd} {r : Int32} (F : Fx E G A RL cc nL ret fr lo kc ks) (hd : decode cc pc = .ok (.invokevirtual 18, 3)) (hk : kd k = 0) (hM : Ct (enL E) G yX8_setStock cX8_setStock 3 (some .int) f1 l1 [.ref (AD G k), .int x0] V (some (.int r)) V1) (hfr : f1 + 1 ≤ fr) (hlo : 8 + (3 + 11) + l1 ≤ lo) (hst : (st.map fun v => v.category).sum ≤ 8) (kk : Go E G A kc ks Q nL V1 (pc + 3) lv (.int r :: st)) : Go E G A kc ks Q nL V pc lv (.int x0 :: .ref (AD G k) :: st) :=
  go_callV (y := yX8_setStock) (As := [.int x0]) (ci := 8) (C := RX8) (T := TX8) (N := 7) F hd ml_L_18 cw_X8_setStock im_X8_setStock se_X8_setStock in_X8 ⟨by decide +kernel, by decide +kernel, (by decide +kernel : (parseMethodDescriptor yX8_setStock.desc).map (fun d => d.parameters.length) = some 1)⟩ (kd_lt hk (by decide)) (by unfold wE; rw [hk]; rfl) rfl hM hfr hlo hst rfl kk
theorem cv_L_22 {k : Nat} {x0 : Int32} {f1 l1 : Nat} {V1 : Wd} {r : Int32} (F : Fx E G A RL cc nL ret fr lo kc ks) (hd : decode cc pc = .ok (.invokevirtual 22, 3)) (hk : kd k = 9) (hM : Ct (enL E) G yX9_setStock cX9_setStock 3 (some .int) f1 l1 [.ref (AD G k), .int x0] V (some (.int r)) V1) (hfr : f1 + 1 ≤ fr) (hlo : 8 + (3 + 11) + l1 ≤ lo) (hst : (st.map fun v => v.category).sum ≤ 8) (kk : Go E G A kc ks Q nL V1 (pc + 3) lv (.int r :: st)) : Go E G A kc ks Q nL V pc lv (.int x0 :: .ref (AD G k) :: st) :=
  go_callV (y := yX9_setStock) (As := [.int x0]) (ci := 9) (C := RX9) (T := TX9) (N := 11) F hd ml_L_22 cw_X9_setStock im_X9_setStock se_X9_setStock in_X9 ⟨by decide +kernel, by decide +kernel, (by decide +kernel : (parseMethodDescriptor yX9_setStock.desc).map (fun d => d.parameters.length) = some 1)⟩ (kd_lt hk (by decide)) (by unfold wE; rw [hk]; rfl) rfl hM hfr hlo hst rfl kk
theorem cv_L_23 {k : Nat} {x0 : Int32} {x1 : Int32} {f1 l1 : Nat} {V1 : Wd} {r : Int32} (F : Fx E G A RL cc nL ret fr lo kc ks) (hd : decode cc pc = .ok (.invokevirtual 23, 3)) (hk : kd k = 0) (hM : Ct (enL E) G yX8_setWind cX8_setWind 4 (some .int) f1 l1 [.ref (AD G k), .int x0, .int x1] V (some (.int r)) V1) (hfr : f1 + 1 ≤ fr) (hlo : 8 + (4 + 11) + l1 ≤ lo) (hst : (st.map fun v => v.category).sum ≤ 8) (kk : Go E G A kc ks Q nL V1 (pc + 3) lv (.int r :: st)) : Go E G A kc ks Q nL V pc lv (.int x1 :: .int x0 :: .ref (AD G k) :: st) :=
  go_callV (y := yX8_setWind) (As := [.int x0, .int x1]) (ci := 8) (C := RX8) (T := TX8) (N := 7) F hd ml_L_23 cw_X8_setWind im_X8_setWind se_X8_setWind in_X8 ⟨by decide +kernel, by decide +kernel, (by decide +kernel : (parseMethodDescriptor yX8_setWind.desc).map (fun d => d.parameters.length) = some 2)⟩ (kd_lt hk (by decide)) (by unfold wE; rw [hk]; rfl) rfl hM hfr hlo hst rfl kk
theorem cv_L_27 {k : Nat} {x0 : Int32} {x1 : Int32} {f1 l1 : Nat} {V1 : Wd} {r : Int32} (F : Fx E G A RL cc nL ret fr lo kc ks) (hd : decode cc pc = .ok (.invokevirtual 27, 3)) (hk : kd k = 9) (hM : Ct (enL E) G yX9_setWind cX9_setWind 4 (some .int) f1 l1 [.ref (AD G k), .int x0, .int x1] V (some (.int r)) V1) (hfr : f1 + 1 ≤ fr) (hlo : 8 + (4 + 11) + l1 ≤ lo) (hst : (st.map fun v => v.category).sum ≤ 8) (kk : Go E G A kc ks Q nL V1 (pc + 3) lv (.int r :: st)) : Go E G A kc ks Q nL V pc lv (.int x1 :: .int x0 :: .ref (AD G k) :: st) :=
  go_callV (y := yX9_setWind) (As := [.int x0, .int x1]) (ci := 9) (C := RX9) (T := TX9) (N := 11) F hd ml_L_27 cw_X9_setWind im_X9_setWind se_X9_setWind in_X9 ⟨by decide +kernel, by decide +kernel, (by decide +kernel : (parseMethodDescriptor yX9_setWind.desc).map (fun d => d.parameters.length) = some 2)⟩ (kd_lt hk (by decide)) (by unfold wE; rw [hk]; rfl) rfl hM hfr hlo hst rfl kk
theorem cv_L_28 {k : Nat} {x0 : Int32} {x1 : Int32} {f1 l1 : Nat} {V1 : Wd} {r : Int32} (F : Fx E G A RL cc nL ret fr lo kc ks) (hd : decode cc pc = .ok (.invokevirtual 28, 3)) (hk : kd k = 0) (hM : Ct (enL E) G yX8_flag cX8_flag 3 (some .int) f1 l1 [.ref (AD G k), .int x0, .int x1] V (some (.int r)) V1) (hfr : f1 + 1 ≤ fr) (hlo : 8 + (3 + 11) + l1 ≤ lo) (hst : (st.map fun v => v.category).sum ≤ 8) (kk : Go E G A kc ks Q nL V1 (pc + 3) lv (.int r :: st)) : Go E G A kc ks Q nL V pc lv (.int x1 :: .int x0 :: .ref (AD G k) :: st) :=
  go_callV (y := yX8_flag) (As := [.int x0, .int x1]) (ci := 8) (C := RX8) (T := TX8) (N := 7) F hd ml_L_28 cw_X8_flag im_X8_flag se_X8_flag in_X8 ⟨by decide +kernel, by decide +kernel, (by decide +kernel : (parseMethodDescriptor yX8_flag.desc).map (fun d => d.parameters.length) = some 2)⟩ (kd_lt hk (by decide)) (by unfold wE; rw [hk]; rfl) rfl hM hfr hlo hst rfl kk
theorem cv_L_31 {k : Nat} {x0 : Int32} {x1 : Int32} {f1 l1 : Nat} {V1 : Wd} {r : Int32} (F : Fx E G A RL cc nL ret fr lo kc ks) (hd : decode cc pc = .ok (.invokevirtual 31, 3)) (hk : kd k = 9) (hM : Ct (enL E) G yX9_flag cX9_flag 3 (some .int) f1 l1 [.ref (AD G k), .int x0, .int x1] V (some (.int r)) V1) (hfr : f1 + 1 ≤ fr) (hlo : 8 + (3 + 11) + l1 ≤ lo) (hst : (st.map fun v => v.category).sum ≤ 8) (kk : Go E G A kc ks Q nL V1 (pc + 3) lv (.int r :: st)) : Go E G A kc ks Q nL V pc lv (.int x1 :: .int x0 :: .ref (AD G k) :: st) :=
  go_callV (y := yX9_flag) (As := [.int x0, .int x1]) (ci := 9) (C := RX9) (T := TX9) (N := 11) F hd ml_L_31 cw_X9_flag im_X9_flag se_X9_flag in_X9 ⟨by decide +kernel, by decide +kernel, (by decide +kernel : (parseMethodDescriptor yX9_flag.desc).map (fun d => d.parameters.length) = some 2)⟩ (kd_lt hk (by decide)) (by unfold wE; rw [hk]; rfl) rfl hM hfr hlo hst rfl kk
theorem cv_L_32 {k : Nat} {x0 : Int32} {x1 : Int32} {f1 l1 : Nat} {V1 : Wd} {r : Int32} (F : Fx E G A RL cc nL ret fr lo kc ks) (hd : decode cc pc = .ok (.invokevirtual 32, 3)) (hk : kd k = 0) (hM : Ct (enL E) G yX8_bend cX8_bend 4 (some .int) f1 l1 [.ref (AD G k), .int x0, .int x1] V (some (.int r)) V1) (hfr : f1 + 1 ≤ fr) (hlo : 8 + (4 + 11) + l1 ≤ lo) (hst : (st.map fun v => v.category).sum ≤ 8) (kk : Go E G A kc ks Q nL V1 (pc + 3) lv (.int r :: st)) : Go E G A kc ks Q nL V pc lv (.int x1 :: .int x0 :: .ref (AD G k) :: st) :=
  go_callV (y := yX8_bend) (As := [.int x0, .int x1]) (ci := 8) (C := RX8) (T := TX8) (N := 7) F hd ml_L_32 cw_X8_bend im_X8_bend se_X8_bend in_X8 ⟨by decide +kernel, by decide +kernel, (by decide +kernel : (parseMethodDescriptor yX8_bend.desc).map (fun d => d.parameters.length) = some 2)⟩ (kd_lt hk (by decide)) (by unfold wE; rw [hk]; rfl) rfl hM hfr hlo hst rfl kk
theorem cv_L_35 {k : Nat} {x0 : Int32} {x1 : Int32} {f1 l1 : Nat} {V1 : Wd} {r : Int32} (F : Fx E G A RL cc nL ret fr lo kc ks) (hd : decode cc pc = .ok (.invokevirtual 35, 3)) (hk : kd k = 9) (hM : Ct (enL E) G yX9_bend cX9_bend 3 (some .int) f1 l1 [.ref (AD G k), .int x0, .int x1] V (some (.int r)) V1) (hfr : f1 + 1 ≤ fr) (hlo : 8 + (3 + 11) + l1 ≤ lo) (hst : (st.map fun v => v.category).sum ≤ 8) (kk : Go E G A kc ks Q nL V1 (pc + 3) lv (.int r :: st)) : Go E G A kc ks Q nL V pc lv (.int x1 :: .int x0 :: .ref (AD G k) :: st) :=
  go_callV (y := yX9_bend) (As := [.int x0, .int x1]) (ci := 9) (C := RX9) (T := TX9) (N := 11) F hd ml_L_35 cw_X9_bend im_X9_bend se_X9_bend in_X9 ⟨by decide +kernel, by decide +kernel, (by decide +kernel : (parseMethodDescriptor yX9_bend.desc).map (fun d => d.parameters.length) = some 2)⟩ (kd_lt hk (by decide)) (by unfold wE; rw [hk]; rfl) rfl hM hfr hlo hst rfl kk
theorem cv_L_36 {k : Nat} {x0 : Int32} {f1 l1 : Nat} {V1 : Wd} {r : Int32} (F : Fx E G A RL cc nL ret fr lo kc ks) (hd : decode cc pc = .ok (.invokevirtual 36, 3)) (hk : kd k = 0) (hM : Ct (enL E) G yX8_unbend cX8_unbend 2 (some .int) f1 l1 [.ref (AD G k), .int x0] V (some (.int r)) V1) (hfr : f1 + 1 ≤ fr) (hlo : 8 + (2 + 11) + l1 ≤ lo) (hst : (st.map fun v => v.category).sum ≤ 8) (kk : Go E G A kc ks Q nL V1 (pc + 3) lv (.int r :: st)) : Go E G A kc ks Q nL V pc lv (.int x0 :: .ref (AD G k) :: st) :=
  go_callV (y := yX8_unbend) (As := [.int x0]) (ci := 8) (C := RX8) (T := TX8) (N := 7) F hd ml_L_36 cw_X8_unbend im_X8_unbend se_X8_unbend in_X8 ⟨by decide +kernel, by decide +kernel, (by decide +kernel : (parseMethodDescriptor yX8_unbend.desc).map (fun d => d.parameters.length) = some 1)⟩ (kd_lt hk (by decide)) (by unfold wE; rw [hk]; rfl) rfl hM hfr hlo hst rfl kk
theorem cv_L_39 {k : Nat} {x0 : Int32} {f1 l1 : Nat} {V1 : Wd} {r : Int32} (F : Fx E G A RL cc nL ret fr lo kc ks) (hd : decode cc pc = .ok (.invokevirtual 39, 3)) (hk : kd k = 9) (hM : Ct (enL E) G yX9_unbend cX9_unbend 2 (some .int) f1 l1 [.ref (AD G k), .int x0] V (some (.int r)) V1) (hfr : f1 + 1 ≤ fr) (hlo : 8 + (2 + 11) + l1 ≤ lo) (hst : (st.map fun v => v.category).sum ≤ 8) (kk : Go E G A kc ks Q nL V1 (pc + 3) lv (.int r :: st)) : Go E G A kc ks Q nL V pc lv (.int x0 :: .ref (AD G k) :: st) :=
  go_callV (y := yX9_unbend) (As := [.int x0]) (ci := 9) (C := RX9) (T := TX9) (N := 11) F hd ml_L_39 cw_X9_unbend im_X9_unbend se_X9_unbend in_X9 ⟨by decide +kernel, by decide +kernel, (by decide +kernel : (parseMethodDescriptor yX9_unbend.desc).map (fun d => d.parameters.length) = some 1)⟩ (kd_lt hk (by decide)) (by unfold wE; rw [hk]; rfl) rfl hM hfr hlo hst rfl kk
theorem cv_L_40 {k : Nat} {x0 : Int32} {x1 : Int32} {f1 l1 : Nat} {V1 : Wd} {r : Int32} (F : Fx E G A RL cc nL ret fr lo kc ks) (hd : decode cc pc = .ok (.invokevirtual 40, 3)) (hk : kd k = 0) (hM : Ct (enL E) G yX8_exchange cX8_exchange 3 (some .int) f1 l1 [.ref (AD G k), .int x0, .int x1] V (some (.int r)) V1) (hfr : f1 + 1 ≤ fr) (hlo : 8 + (3 + 11) + l1 ≤ lo) (hst : (st.map fun v => v.category).sum ≤ 8) (kk : Go E G A kc ks Q nL V1 (pc + 3) lv (.int r :: st)) : Go E G A kc ks Q nL V pc lv (.int x1 :: .int x0 :: .ref (AD G k) :: st) :=
  go_callV (y := yX8_exchange) (As := [.int x0, .int x1]) (ci := 8) (C := RX8) (T := TX8) (N := 7) F hd ml_L_40 cw_X8_exchange im_X8_exchange se_X8_exchange in_X8 ⟨by decide +kernel, by decide +kernel, (by decide +kernel : (parseMethodDescriptor yX8_exchange.desc).map (fun d => d.parameters.length) = some 2)⟩ (kd_lt hk (by decide)) (by unfold wE; rw [hk]; rfl) rfl hM hfr hlo hst rfl kk
theorem cv_L_43 {k : Nat} {x0 : Int32} {x1 : Int32} {f1 l1 : Nat} {V1 : Wd} {r : Int32} (F : Fx E G A RL cc nL ret fr lo kc ks) (hd : decode cc pc = .ok (.invokevirtual 43, 3)) (hk : kd k = 9) (hM : Ct (enL E) G yX9_exchange cX9_exchange 3 (some .int) f1 l1 [.ref (AD G k), .int x0, .int x1] V (some (.int r)) V1) (hfr : f1 + 1 ≤ fr) (hlo : 8 + (3 + 11) + l1 ≤ lo) (hst : (st.map fun v => v.category).sum ≤ 8) (kk : Go E G A kc ks Q nL V1 (pc + 3) lv (.int r :: st)) : Go E G A kc ks Q nL V pc lv (.int x1 :: .int x0 :: .ref (AD G k) :: st) :=
  go_callV (y := yX9_exchange) (As := [.int x0, .int x1]) (ci := 9) (C := RX9) (T := TX9) (N := 11) F hd ml_L_43 cw_X9_exchange im_X9_exchange se_X9_exchange in_X9 ⟨by decide +kernel, by decide +kernel, (by decide +kernel : (parseMethodDescriptor yX9_exchange.desc).map (fun d => d.parameters.length) = some 2)⟩ (kd_lt hk (by decide)) (by unfold wE; rw [hk]; rfl) rfl hM hfr hlo hst rfl kk
theorem cv_L_44 {k : Nat} {f1 l1 : Nat} {V1 : Wd} {r : Int32} (F : Fx E G A RL cc nL ret fr lo kc ks) (hd : decode cc pc = .ok (.invokevirtual 44, 3)) (hk : kd k = 0) (hM : Ct (enL E) G yX8_lower cX8_lower 4 (some .int) f1 l1 [.ref (AD G k)] V (some (.int r)) V1) (hfr : f1 + 1 ≤ fr) (hlo : 8 + (4 + 11) + l1 ≤ lo) (hst : (st.map fun v => v.category).sum ≤ 8) (kk : Go E G A kc ks Q nL V1 (pc + 3) lv (.int r :: st)) : Go E G A kc ks Q nL V pc lv (.ref (AD G k) :: st) :=
  go_callV (y := yX8_lower) (As := []) (ci := 8) (C := RX8) (T := TX8) (N := 7) F hd ml_L_44 cw_X8_lower im_X8_lower se_X8_lower in_X8 ⟨by decide +kernel, by decide +kernel, (by decide +kernel : (parseMethodDescriptor yX8_lower.desc).map (fun d => d.parameters.length) = some 0)⟩ (kd_lt hk (by decide)) (by unfold wE; rw [hk]; rfl) rfl hM hfr hlo hst rfl kk
theorem cv_L_48 {k : Nat} {f1 l1 : Nat} {V1 : Wd} {r : Int32} (F : Fx E G A RL cc nL ret fr lo kc ks) (hd : decode cc pc = .ok (.invokevirtual 48, 3)) (hk : kd k = 9) (hM : Ct (enL E) G yX9_lower cX9_lower 2 (some .int) f1 l1 [.ref (AD G k)] V (some (.int r)) V1) (hfr : f1 + 1 ≤ fr) (hlo : 8 + (2 + 11) + l1 ≤ lo) (hst : (st.map fun v => v.category).sum ≤ 8) (kk : Go E G A kc ks Q nL V1 (pc + 3) lv (.int r :: st)) : Go E G A kc ks Q nL V pc lv (.ref (AD G k) :: st) :=
  go_callV (y := yX9_lower) (As := []) (ci := 9) (C := RX9) (T := TX9) (N := 11) F hd ml_L_48 cw_X9_lower im_X9_lower se_X9_lower in_X9 ⟨by decide +kernel, by decide +kernel, (by decide +kernel : (parseMethodDescriptor yX9_lower.desc).map (fun d => d.parameters.length) = some 0)⟩ (kd_lt hk (by decide)) (by unfold wE; rw [hk]; rfl) rfl hM hfr hlo hst rfl kk
theorem cv_L_49 {k : Nat} {x0 : Int32} {x1 : Int32} {x2 : Int32} {f1 l1 : Nat} {V1 : Wd} {r : Int32} (F : Fx E G A RL cc nL ret fr lo kc ks) (hd : decode cc pc = .ok (.invokevirtual 49, 3)) (hk : kd k = 0) (hM : Ct (enL E) G yX8_sign cX8_sign 4 (some .int) f1 l1 [.ref (AD G k), .int x0, .int x1, .int x2] V (some (.int r)) V1) (hfr : f1 + 1 ≤ fr) (hlo : 8 + (4 + 11) + l1 ≤ lo) (hst : (st.map fun v => v.category).sum ≤ 8) (kk : Go E G A kc ks Q nL V1 (pc + 3) lv (.int r :: st)) : Go E G A kc ks Q nL V pc lv (.int x2 :: .int x1 :: .int x0 :: .ref (AD G k) :: st) :=
  go_callV (y := yX8_sign) (As := [.int x0, .int x1, .int x2]) (ci := 8) (C := RX8) (T := TX8) (N := 7) F hd ml_L_49 cw_X8_sign im_X8_sign se_X8_sign in_X8 ⟨by decide +kernel, by decide +kernel, (by decide +kernel : (parseMethodDescriptor yX8_sign.desc).map (fun d => d.parameters.length) = some 3)⟩ (kd_lt hk (by decide)) (by unfold wE; rw [hk]; rfl) rfl hM hfr hlo hst rfl kk
theorem cv_L_53 {k : Nat} {x0 : Int32} {x1 : Int32} {x2 : Int32} {f1 l1 : Nat} {V1 : Wd} {r : Int32} (F : Fx E G A RL cc nL ret fr lo kc ks) (hd : decode cc pc = .ok (.invokevirtual 53, 3)) (hk : kd k = 9) (hM : Ct (enL E) G yX9_sign cX9_sign 4 (some .int) f1 l1 [.ref (AD G k), .int x0, .int x1, .int x2] V (some (.int r)) V1) (hfr : f1 + 1 ≤ fr) (hlo : 8 + (4 + 11) + l1 ≤ lo) (hst : (st.map fun v => v.category).sum ≤ 8) (kk : Go E G A kc ks Q nL V1 (pc + 3) lv (.int r :: st)) : Go E G A kc ks Q nL V pc lv (.int x2 :: .int x1 :: .int x0 :: .ref (AD G k) :: st) :=
  go_callV (y := yX9_sign) (As := [.int x0, .int x1, .int x2]) (ci := 9) (C := RX9) (T := TX9) (N := 11) F hd ml_L_53 cw_X9_sign im_X9_sign se_X9_sign in_X9 ⟨by decide +kernel, by decide +kernel, (by decide +kernel : (parseMethodDescriptor yX9_sign.desc).map (fun d => d.parameters.length) = some 3)⟩ (kd_lt hk (by decide)) (by unfold wE; rw [hk]; rfl) rfl hM hfr hlo hst rfl kk
theorem cv_L_54 {k : Nat} {x0 : Int32} {x1 : Int32} {f1 l1 : Nat} {V1 : Wd} {r : Int32} (F : Fx E G A RL cc nL ret fr lo kc ks) (hd : decode cc pc = .ok (.invokevirtual 54, 3)) (hk : kd k = 0) (hM : Ct (enL E) G yX8_enter cX8_enter 3 (some .int) f1 l1 [.ref (AD G k), .int x0, .int x1] V (some (.int r)) V1) (hfr : f1 + 1 ≤ fr) (hlo : 8 + (3 + 11) + l1 ≤ lo) (hst : (st.map fun v => v.category).sum ≤ 8) (kk : Go E G A kc ks Q nL V1 (pc + 3) lv (.int r :: st)) : Go E G A kc ks Q nL V pc lv (.int x1 :: .int x0 :: .ref (AD G k) :: st) :=
  go_callV (y := yX8_enter) (As := [.int x0, .int x1]) (ci := 8) (C := RX8) (T := TX8) (N := 7) F hd ml_L_54 cw_X8_enter im_X8_enter se_X8_enter in_X8 ⟨by decide +kernel, by decide +kernel, (by decide +kernel : (parseMethodDescriptor yX8_enter.desc).map (fun d => d.parameters.length) = some 2)⟩ (kd_lt hk (by decide)) (by unfold wE; rw [hk]; rfl) rfl hM hfr hlo hst rfl kk
theorem cv_L_57 {k : Nat} {x0 : Int32} {x1 : Int32} {f1 l1 : Nat} {V1 : Wd} {r : Int32} (F : Fx E G A RL cc nL ret fr lo kc ks) (hd : decode cc pc = .ok (.invokevirtual 57, 3)) (hk : kd k = 9) (hM : Ct (enL E) G yX9_enter cX9_enter 3 (some .int) f1 l1 [.ref (AD G k), .int x0, .int x1] V (some (.int r)) V1) (hfr : f1 + 1 ≤ fr) (hlo : 8 + (3 + 11) + l1 ≤ lo) (hst : (st.map fun v => v.category).sum ≤ 8) (kk : Go E G A kc ks Q nL V1 (pc + 3) lv (.int r :: st)) : Go E G A kc ks Q nL V pc lv (.int x1 :: .int x0 :: .ref (AD G k) :: st) :=
  go_callV (y := yX9_enter) (As := [.int x0, .int x1]) (ci := 9) (C := RX9) (T := TX9) (N := 11) F hd ml_L_57 cw_X9_enter im_X9_enter se_X9_enter in_X9 ⟨by decide +kernel, by decide +kernel, (by decide +kernel : (parseMethodDescriptor yX9_enter.desc).map (fun d => d.parameters.length) = some 2)⟩ (kd_lt hk (by decide)) (by unfold wE; rw [hk]; rfl) rfl hM hfr hlo hst rfl kk
theorem cv_L_58 {k : Nat} {x0 : Int32} {f1 l1 : Nat} {V1 : Wd} {r : Int32} (F : Fx E G A RL cc nL ret fr lo kc ks) (hd : decode cc pc = .ok (.invokevirtual 58, 3)) (hk : kd k = 0) (hM : Ct (enL E) G yX8_strike cX8_strike 2 (some .int) f1 l1 [.ref (AD G k), .int x0] V (some (.int r)) V1) (hfr : f1 + 1 ≤ fr) (hlo : 8 + (2 + 11) + l1 ≤ lo) (hst : (st.map fun v => v.category).sum ≤ 8) (kk : Go E G A kc ks Q nL V1 (pc + 3) lv (.int r :: st)) : Go E G A kc ks Q nL V pc lv (.int x0 :: .ref (AD G k) :: st) :=
  go_callV (y := yX8_strike) (As := [.int x0]) (ci := 8) (C := RX8) (T := TX8) (N := 7) F hd ml_L_58 cw_X8_strike im_X8_strike se_X8_strike in_X8 ⟨by decide +kernel, by decide +kernel, (by decide +kernel : (parseMethodDescriptor yX8_strike.desc).map (fun d => d.parameters.length) = some 1)⟩ (kd_lt hk (by decide)) (by unfold wE; rw [hk]; rfl) rfl hM hfr hlo hst rfl kk
theorem cv_L_61 {k : Nat} {x0 : Int32} {f1 l1 : Nat} {V1 : Wd} {r : Int32} (F : Fx E G A RL cc nL ret fr lo kc ks) (hd : decode cc pc = .ok (.invokevirtual 61, 3)) (hk : kd k = 9) (hM : Ct (enL E) G yX9_strike cX9_strike 4 (some .int) f1 l1 [.ref (AD G k), .int x0] V (some (.int r)) V1) (hfr : f1 + 1 ≤ fr) (hlo : 8 + (4 + 11) + l1 ≤ lo) (hst : (st.map fun v => v.category).sum ≤ 8) (kk : Go E G A kc ks Q nL V1 (pc + 3) lv (.int r :: st)) : Go E G A kc ks Q nL V pc lv (.int x0 :: .ref (AD G k) :: st) :=
  go_callV (y := yX9_strike) (As := [.int x0]) (ci := 9) (C := RX9) (T := TX9) (N := 11) F hd ml_L_61 cw_X9_strike im_X9_strike se_X9_strike in_X9 ⟨by decide +kernel, by decide +kernel, (by decide +kernel : (parseMethodDescriptor yX9_strike.desc).map (fun d => d.parameters.length) = some 1)⟩ (kd_lt hk (by decide)) (by unfold wE; rw [hk]; rfl) rfl hM hfr hlo hst rfl kk
theorem cv_L_62 {k : Nat} {x0 : Int32} {x1 : Int32} {f1 l1 : Nat} {V1 : Wd} {r : Int32} (F : Fx E G A RL cc nL ret fr lo kc ks) (hd : decode cc pc = .ok (.invokevirtual 62, 3)) (hk : kd k = 0) (hM : Ct (enL E) G yX8_entry cX8_entry 3 (some .int) f1 l1 [.ref (AD G k), .int x0, .int x1] V (some (.int r)) V1) (hfr : f1 + 1 ≤ fr) (hlo : 8 + (3 + 11) + l1 ≤ lo) (hst : (st.map fun v => v.category).sum ≤ 8) (kk : Go E G A kc ks Q nL V1 (pc + 3) lv (.int r :: st)) : Go E G A kc ks Q nL V pc lv (.int x1 :: .int x0 :: .ref (AD G k) :: st) :=
  go_callV (y := yX8_entry) (As := [.int x0, .int x1]) (ci := 8) (C := RX8) (T := TX8) (N := 7) F hd ml_L_62 cw_X8_entry im_X8_entry se_X8_entry in_X8 ⟨by decide +kernel, by decide +kernel, (by decide +kernel : (parseMethodDescriptor yX8_entry.desc).map (fun d => d.parameters.length) = some 2)⟩ (kd_lt hk (by decide)) (by unfold wE; rw [hk]; rfl) rfl hM hfr hlo hst rfl kk
theorem cv_L_65 {k : Nat} {x0 : Int32} {x1 : Int32} {f1 l1 : Nat} {V1 : Wd} {r : Int32} (F : Fx E G A RL cc nL ret fr lo kc ks) (hd : decode cc pc = .ok (.invokevirtual 65, 3)) (hk : kd k = 9) (hM : Ct (enL E) G yX9_entry cX9_entry 3 (some .int) f1 l1 [.ref (AD G k), .int x0, .int x1] V (some (.int r)) V1) (hfr : f1 + 1 ≤ fr) (hlo : 8 + (3 + 11) + l1 ≤ lo) (hst : (st.map fun v => v.category).sum ≤ 8) (kk : Go E G A kc ks Q nL V1 (pc + 3) lv (.int r :: st)) : Go E G A kc ks Q nL V pc lv (.int x1 :: .int x0 :: .ref (AD G k) :: st) :=
  go_callV (y := yX9_entry) (As := [.int x0, .int x1]) (ci := 9) (C := RX9) (T := TX9) (N := 11) F hd ml_L_65 cw_X9_entry im_X9_entry se_X9_entry in_X9 ⟨by decide +kernel, by decide +kernel, (by decide +kernel : (parseMethodDescriptor yX9_entry.desc).map (fun d => d.parameters.length) = some 2)⟩ (kd_lt hk (by decide)) (by unfold wE; rw [hk]; rfl) rfl hM hfr hlo hst rfl kk
theorem cv_L_66 {k : Nat} {x0 : Int32} {x1 : Int32} {x2 : Int32} {f1 l1 : Nat} {V1 : Wd} {r : Int32} (F : Fx E G A RL cc nL ret fr lo kc ks) (hd : decode cc pc = .ok (.invokevirtual 66, 3)) (hk : kd k = 0) (hM : Ct (enL E) G yX8_seen cX8_seen 5 (some .int) f1 l1 [.ref (AD G k), .int x0, .int x1, .int x2] V (some (.int r)) V1) (hfr : f1 + 1 ≤ fr) (hlo : 8 + (5 + 11) + l1 ≤ lo) (hst : (st.map fun v => v.category).sum ≤ 8) (kk : Go E G A kc ks Q nL V1 (pc + 3) lv (.int r :: st)) : Go E G A kc ks Q nL V pc lv (.int x2 :: .int x1 :: .int x0 :: .ref (AD G k) :: st) :=
  go_callV (y := yX8_seen) (As := [.int x0, .int x1, .int x2]) (ci := 8) (C := RX8) (T := TX8) (N := 7) F hd ml_L_66 cw_X8_seen im_X8_seen se_X8_seen in_X8 ⟨by decide +kernel, by decide +kernel, (by decide +kernel : (parseMethodDescriptor yX8_seen.desc).map (fun d => d.parameters.length) = some 3)⟩ (kd_lt hk (by decide)) (by unfold wE; rw [hk]; rfl) rfl hM hfr hlo hst rfl kk
theorem cv_L_69 {k : Nat} {x0 : Int32} {x1 : Int32} {x2 : Int32} {f1 l1 : Nat} {V1 : Wd} {r : Int32} (F : Fx E G A RL cc nL ret fr lo kc ks) (hd : decode cc pc = .ok (.invokevirtual 69, 3)) (hk : kd k = 9) (hM : Ct (enL E) G yX9_seen cX9_seen 4 (some .int) f1 l1 [.ref (AD G k), .int x0, .int x1, .int x2] V (some (.int r)) V1) (hfr : f1 + 1 ≤ fr) (hlo : 8 + (4 + 11) + l1 ≤ lo) (hst : (st.map fun v => v.category).sum ≤ 8) (kk : Go E G A kc ks Q nL V1 (pc + 3) lv (.int r :: st)) : Go E G A kc ks Q nL V pc lv (.int x2 :: .int x1 :: .int x0 :: .ref (AD G k) :: st) :=
  go_callV (y := yX9_seen) (As := [.int x0, .int x1, .int x2]) (ci := 9) (C := RX9) (T := TX9) (N := 11) F hd ml_L_69 cw_X9_seen im_X9_seen se_X9_seen in_X9 ⟨by decide +kernel, by decide +kernel, (by decide +kernel : (parseMethodDescriptor yX9_seen.desc).map (fun d => d.parameters.length) = some 3)⟩ (kd_lt hk (by decide)) (by unfold wE; rw [hk]; rfl) rfl hM hfr hlo hst rfl kk
theorem cv_L_70 {k : Nat} {x0 : Int32} {x1 : Int32} {f1 l1 : Nat} {V1 : Wd} {r : Int32} (F : Fx E G A RL cc nL ret fr lo kc ks) (hd : decode cc pc = .ok (.invokevirtual 70, 3)) (hk : kd k = 0) (hM : Ct (enL E) G yX8_word cX8_word 4 (some .int) f1 l1 [.ref (AD G k), .int x0, .int x1] V (some (.int r)) V1) (hfr : f1 + 1 ≤ fr) (hlo : 8 + (4 + 11) + l1 ≤ lo) (hst : (st.map fun v => v.category).sum ≤ 8) (kk : Go E G A kc ks Q nL V1 (pc + 3) lv (.int r :: st)) : Go E G A kc ks Q nL V pc lv (.int x1 :: .int x0 :: .ref (AD G k) :: st) :=
  go_callV (y := yX8_word) (As := [.int x0, .int x1]) (ci := 8) (C := RX8) (T := TX8) (N := 7) F hd ml_L_70 cw_X8_word im_X8_word se_X8_word in_X8 ⟨by decide +kernel, by decide +kernel, (by decide +kernel : (parseMethodDescriptor yX8_word.desc).map (fun d => d.parameters.length) = some 2)⟩ (kd_lt hk (by decide)) (by unfold wE; rw [hk]; rfl) rfl hM hfr hlo hst rfl kk
theorem cv_L_73 {k : Nat} {x0 : Int32} {x1 : Int32} {f1 l1 : Nat} {V1 : Wd} {r : Int32} (F : Fx E G A RL cc nL ret fr lo kc ks) (hd : decode cc pc = .ok (.invokevirtual 73, 3)) (hk : kd k = 9) (hM : Ct (enL E) G yX9_word cX9_word 3 (some .int) f1 l1 [.ref (AD G k), .int x0, .int x1] V (some (.int r)) V1) (hfr : f1 + 1 ≤ fr) (hlo : 8 + (3 + 11) + l1 ≤ lo) (hst : (st.map fun v => v.category).sum ≤ 8) (kk : Go E G A kc ks Q nL V1 (pc + 3) lv (.int r :: st)) : Go E G A kc ks Q nL V pc lv (.int x1 :: .int x0 :: .ref (AD G k) :: st) :=
  go_callV (y := yX9_word) (As := [.int x0, .int x1]) (ci := 9) (C := RX9) (T := TX9) (N := 11) F hd ml_L_73 cw_X9_word im_X9_word se_X9_word in_X9 ⟨by decide +kernel, by decide +kernel, (by decide +kernel : (parseMethodDescriptor yX9_word.desc).map (fun d => d.parameters.length) = some 2)⟩ (kd_lt hk (by decide)) (by unfold wE; rw [hk]; rfl) rfl hM hfr hlo hst rfl kk
theorem cv_L_74 {k : Nat} {x0 : Int32} {f1 l1 : Nat} {V1 : Wd} {r : Int32} (F : Fx E G A RL cc nL ret fr lo kc ks) (hd : decode cc pc = .ok (.invokevirtual 74, 3)) (hk : kd k = 0) (hM : Ct (enL E) G yX8_known cX8_known 2 (some .int) f1 l1 [.ref (AD G k), .int x0] V (some (.int r)) V1) (hfr : f1 + 1 ≤ fr) (hlo : 8 + (2 + 11) + l1 ≤ lo) (hst : (st.map fun v => v.category).sum ≤ 8) (kk : Go E G A kc ks Q nL V1 (pc + 3) lv (.int r :: st)) : Go E G A kc ks Q nL V pc lv (.int x0 :: .ref (AD G k) :: st) :=
  go_callV (y := yX8_known) (As := [.int x0]) (ci := 8) (C := RX8) (T := TX8) (N := 7) F hd ml_L_74 cw_X8_known im_X8_known se_X8_known in_X8 ⟨by decide +kernel, by decide +kernel, (by decide +kernel : (parseMethodDescriptor yX8_known.desc).map (fun d => d.parameters.length) = some 1)⟩ (kd_lt hk (by decide)) (by unfold wE; rw [hk]; rfl) rfl hM hfr hlo hst rfl kk
theorem cv_L_77 {k : Nat} {x0 : Int32} {f1 l1 : Nat} {V1 : Wd} {r : Int32} (F : Fx E G A RL cc nL ret fr lo kc ks) (hd : decode cc pc = .ok (.invokevirtual 77, 3)) (hk : kd k = 9) (hM : Ct (enL E) G yX9_known cX9_known 2 (some .int) f1 l1 [.ref (AD G k), .int x0] V (some (.int r)) V1) (hfr : f1 + 1 ≤ fr) (hlo : 8 + (2 + 11) + l1 ≤ lo) (hst : (st.map fun v => v.category).sum ≤ 8) (kk : Go E G A kc ks Q nL V1 (pc + 3) lv (.int r :: st)) : Go E G A kc ks Q nL V pc lv (.int x0 :: .ref (AD G k) :: st) :=
  go_callV (y := yX9_known) (As := [.int x0]) (ci := 9) (C := RX9) (T := TX9) (N := 11) F hd ml_L_77 cw_X9_known im_X9_known se_X9_known in_X9 ⟨by decide +kernel, by decide +kernel, (by decide +kernel : (parseMethodDescriptor yX9_known.desc).map (fun d => d.parameters.length) = some 1)⟩ (kd_lt hk (by decide)) (by unfold wE; rw [hk]; rfl) rfl hM hfr hlo hst rfl kk
theorem cv_L_78 {k : Nat} {f1 l1 : Nat} {V1 : Wd} {r : Int32} (F : Fx E G A RL cc nL ret fr lo kc ks) (hd : decode cc pc = .ok (.invokevirtual 78, 3)) (hk : kd k = 0) (hM : Ct (enL E) G yX8_isSame cX8_isSame 1 (some .int) f1 l1 [.ref (AD G k)] V (some (.int r)) V1) (hfr : f1 + 1 ≤ fr) (hlo : 8 + (1 + 11) + l1 ≤ lo) (hst : (st.map fun v => v.category).sum ≤ 8) (kk : Go E G A kc ks Q nL V1 (pc + 3) lv (.int r :: st)) : Go E G A kc ks Q nL V pc lv (.ref (AD G k) :: st) :=
  go_callV (y := yX8_isSame) (As := []) (ci := 8) (C := RX8) (T := TX8) (N := 7) F hd ml_L_78 cw_X8_isSame im_X8_isSame se_X8_isSame in_X8 ⟨by decide +kernel, by decide +kernel, (by decide +kernel : (parseMethodDescriptor yX8_isSame.desc).map (fun d => d.parameters.length) = some 0)⟩ (kd_lt hk (by decide)) (by unfold wE; rw [hk]; rfl) rfl hM hfr hlo hst rfl kk
theorem cv_L_81 {k : Nat} {f1 l1 : Nat} {V1 : Wd} {r : Int32} (F : Fx E G A RL cc nL ret fr lo kc ks) (hd : decode cc pc = .ok (.invokevirtual 81, 3)) (hk : kd k = 9) (hM : Ct (enL E) G yX9_isSame cX9_isSame 3 (some .int) f1 l1 [.ref (AD G k)] V (some (.int r)) V1) (hfr : f1 + 1 ≤ fr) (hlo : 8 + (3 + 11) + l1 ≤ lo) (hst : (st.map fun v => v.category).sum ≤ 8) (kk : Go E G A kc ks Q nL V1 (pc + 3) lv (.int r :: st)) : Go E G A kc ks Q nL V pc lv (.ref (AD G k) :: st) :=
  go_callV (y := yX9_isSame) (As := []) (ci := 9) (C := RX9) (T := TX9) (N := 11) F hd ml_L_81 cw_X9_isSame im_X9_isSame se_X9_isSame in_X9 ⟨by decide +kernel, by decide +kernel, (by decide +kernel : (parseMethodDescriptor yX9_isSame.desc).map (fun d => d.parameters.length) = some 0)⟩ (kd_lt hk (by decide)) (by unfold wE; rw [hk]; rfl) rfl hM hfr hlo hst rfl kk
theorem cv_L_82 {k : Nat} {x0 : Int32} {f1 l1 : Nat} {V1 : Wd} {r : Int32} (F : Fx E G A RL cc nL ret fr lo kc ks) (hd : decode cc pc = .ok (.invokevirtual 82, 3)) (hk : kd k = 0) (hM : Ct (enL E) G yX8_sail cX8_sail 3 (some .int) f1 l1 [.ref (AD G k), .int x0] V (some (.int r)) V1) (hfr : f1 + 1 ≤ fr) (hlo : 8 + (3 + 11) + l1 ≤ lo) (hst : (st.map fun v => v.category).sum ≤ 8) (kk : Go E G A kc ks Q nL V1 (pc + 3) lv (.int r :: st)) : Go E G A kc ks Q nL V pc lv (.int x0 :: .ref (AD G k) :: st) :=
  go_callV (y := yX8_sail) (As := [.int x0]) (ci := 8) (C := RX8) (T := TX8) (N := 7) F hd ml_L_82 cw_X8_sail im_X8_sail se_X8_sail in_X8 ⟨by decide +kernel, by decide +kernel, (by decide +kernel : (parseMethodDescriptor yX8_sail.desc).map (fun d => d.parameters.length) = some 1)⟩ (kd_lt hk (by decide)) (by unfold wE; rw [hk]; rfl) rfl hM hfr hlo hst rfl kk
theorem cv_L_85 {k : Nat} {x0 : Int32} {f1 l1 : Nat} {V1 : Wd} {r : Int32} (F : Fx E G A RL cc nL ret fr lo kc ks) (hd : decode cc pc = .ok (.invokevirtual 85, 3)) (hk : kd k = 9) (hM : Ct (enL E) G yX9_sail cX9_sail 3 (some .int) f1 l1 [.ref (AD G k), .int x0] V (some (.int r)) V1) (hfr : f1 + 1 ≤ fr) (hlo : 8 + (3 + 11) + l1 ≤ lo) (hst : (st.map fun v => v.category).sum ≤ 8) (kk : Go E G A kc ks Q nL V1 (pc + 3) lv (.int r :: st)) : Go E G A kc ks Q nL V pc lv (.int x0 :: .ref (AD G k) :: st) :=
  go_callV (y := yX9_sail) (As := [.int x0]) (ci := 9) (C := RX9) (T := TX9) (N := 11) F hd ml_L_85 cw_X9_sail im_X9_sail se_X9_sail in_X9 ⟨by decide +kernel, by decide +kernel, (by decide +kernel : (parseMethodDescriptor yX9_sail.desc).map (fun d => d.parameters.length) = some 1)⟩ (kd_lt hk (by decide)) (by unfold wE; rw [hk]; rfl) rfl hM hfr hlo hst rfl kk
theorem cv_L_86 {k : Nat} {f1 l1 : Nat} {V1 : Wd} {r : Int32} (F : Fx E G A RL cc nL ret fr lo kc ks) (hd : decode cc pc = .ok (.invokevirtual 86, 3)) (hk : kd k = 0) (hM : Ct (enL E) G yX8_answer cX8_answer 1 (some .int) f1 l1 [.ref (AD G k)] V (some (.int r)) V1) (hfr : f1 + 1 ≤ fr) (hlo : 8 + (1 + 11) + l1 ≤ lo) (hst : (st.map fun v => v.category).sum ≤ 8) (kk : Go E G A kc ks Q nL V1 (pc + 3) lv (.int r :: st)) : Go E G A kc ks Q nL V pc lv (.ref (AD G k) :: st) :=
  go_callV (y := yX8_answer) (As := []) (ci := 8) (C := RX8) (T := TX8) (N := 7) F hd ml_L_86 cw_X8_answer im_X8_answer se_X8_answer in_X8 ⟨by decide +kernel, by decide +kernel, (by decide +kernel : (parseMethodDescriptor yX8_answer.desc).map (fun d => d.parameters.length) = some 0)⟩ (kd_lt hk (by decide)) (by unfold wE; rw [hk]; rfl) rfl hM hfr hlo hst rfl kk
theorem cv_L_89 {k : Nat} {f1 l1 : Nat} {V1 : Wd} {r : Int32} (F : Fx E G A RL cc nL ret fr lo kc ks) (hd : decode cc pc = .ok (.invokevirtual 89, 3)) (hk : kd k = 9) (hM : Ct (enL E) G yX9_answer cX9_answer 1 (some .int) f1 l1 [.ref (AD G k)] V (some (.int r)) V1) (hfr : f1 + 1 ≤ fr) (hlo : 8 + (1 + 11) + l1 ≤ lo) (hst : (st.map fun v => v.category).sum ≤ 8) (kk : Go E G A kc ks Q nL V1 (pc + 3) lv (.int r :: st)) : Go E G A kc ks Q nL V pc lv (.ref (AD G k) :: st) :=
  go_callV (y := yX9_answer) (As := []) (ci := 9) (C := RX9) (T := TX9) (N := 11) F hd ml_L_89 cw_X9_answer im_X9_answer se_X9_answer in_X9 ⟨by decide +kernel, by decide +kernel, (by decide +kernel : (parseMethodDescriptor yX9_answer.desc).map (fun d => d.parameters.length) = some 0)⟩ (kd_lt hk (by decide)) (by unfold wE; rw [hk]; rfl) rfl hM hfr hlo hst rfl kk
theorem cv_L_90 {k : Nat} {x0 : Int32} {x1 : Int32} {f1 l1 : Nat} {V1 : Wd} {r : Int32} (F : Fx E G A RL cc nL ret fr lo kc ks) (hd : decode cc pc = .ok (.invokevirtual 90, 3)) (hk : kd k = 0) (hM : Ct (enL E) G yX8_logged cX8_logged 3 (some .int) f1 l1 [.ref (AD G k), .int x0, .int x1] V (some (.int r)) V1) (hfr : f1 + 1 ≤ fr) (hlo : 8 + (3 + 11) + l1 ≤ lo) (hst : (st.map fun v => v.category).sum ≤ 8) (kk : Go E G A kc ks Q nL V1 (pc + 3) lv (.int r :: st)) : Go E G A kc ks Q nL V pc lv (.int x1 :: .int x0 :: .ref (AD G k) :: st) :=
  go_callV (y := yX8_logged) (As := [.int x0, .int x1]) (ci := 8) (C := RX8) (T := TX8) (N := 7) F hd ml_L_90 cw_X8_logged im_X8_logged se_X8_logged in_X8 ⟨by decide +kernel, by decide +kernel, (by decide +kernel : (parseMethodDescriptor yX8_logged.desc).map (fun d => d.parameters.length) = some 2)⟩ (kd_lt hk (by decide)) (by unfold wE; rw [hk]; rfl) rfl hM hfr hlo hst rfl kk
theorem cv_L_93 {k : Nat} {x0 : Int32} {x1 : Int32} {f1 l1 : Nat} {V1 : Wd} {r : Int32} (F : Fx E G A RL cc nL ret fr lo kc ks) (hd : decode cc pc = .ok (.invokevirtual 93, 3)) (hk : kd k = 9) (hM : Ct (enL E) G yX9_logged cX9_logged 4 (some .int) f1 l1 [.ref (AD G k), .int x0, .int x1] V (some (.int r)) V1) (hfr : f1 + 1 ≤ fr) (hlo : 8 + (4 + 11) + l1 ≤ lo) (hst : (st.map fun v => v.category).sum ≤ 8) (kk : Go E G A kc ks Q nL V1 (pc + 3) lv (.int r :: st)) : Go E G A kc ks Q nL V pc lv (.int x1 :: .int x0 :: .ref (AD G k) :: st) :=
  go_callV (y := yX9_logged) (As := [.int x0, .int x1]) (ci := 9) (C := RX9) (T := TX9) (N := 11) F hd ml_L_93 cw_X9_logged im_X9_logged se_X9_logged in_X9 ⟨by decide +kernel, by decide +kernel, (by decide +kernel : (parseMethodDescriptor yX9_logged.desc).map (fun d => d.parameters.length) = some 2)⟩ (kd_lt hk (by decide)) (by unfold wE; rw [hk]; rfl) rfl hM hfr hlo hst rfl kk
theorem cv_L_94 {k : Nat} {x0 : Int32} {f1 l1 : Nat} {V1 : Wd} {r : Int32} (F : Fx E G A RL cc nL ret fr lo kc ks) (hd : decode cc pc = .ok (.invokevirtual 94, 3)) (hk : kd k = 0) (hM : Ct (enL E) G yX8_total cX8_total 2 (some .int) f1 l1 [.ref (AD G k), .int x0] V (some (.int r)) V1) (hfr : f1 + 1 ≤ fr) (hlo : 8 + (2 + 11) + l1 ≤ lo) (hst : (st.map fun v => v.category).sum ≤ 8) (kk : Go E G A kc ks Q nL V1 (pc + 3) lv (.int r :: st)) : Go E G A kc ks Q nL V pc lv (.int x0 :: .ref (AD G k) :: st) :=
  go_callV (y := yX8_total) (As := [.int x0]) (ci := 8) (C := RX8) (T := TX8) (N := 7) F hd ml_L_94 cw_X8_total im_X8_total se_X8_total in_X8 ⟨by decide +kernel, by decide +kernel, (by decide +kernel : (parseMethodDescriptor yX8_total.desc).map (fun d => d.parameters.length) = some 1)⟩ (kd_lt hk (by decide)) (by unfold wE; rw [hk]; rfl) rfl hM hfr hlo hst rfl kk
theorem cv_L_97 {k : Nat} {x0 : Int32} {f1 l1 : Nat} {V1 : Wd} {r : Int32} (F : Fx E G A RL cc nL ret fr lo kc ks) (hd : decode cc pc = .ok (.invokevirtual 97, 3)) (hk : kd k = 9) (hM : Ct (enL E) G yX9_total cX9_total 2 (some .int) f1 l1 [.ref (AD G k), .int x0] V (some (.int r)) V1) (hfr : f1 + 1 ≤ fr) (hlo : 8 + (2 + 11) + l1 ≤ lo) (hst : (st.map fun v => v.category).sum ≤ 8) (kk : Go E G A kc ks Q nL V1 (pc + 3) lv (.int r :: st)) : Go E G A kc ks Q nL V pc lv (.int x0 :: .ref (AD G k) :: st) :=
  go_callV (y := yX9_total) (As := [.int x0]) (ci := 9) (C := RX9) (T := TX9) (N := 11) F hd ml_L_97 cw_X9_total im_X9_total se_X9_total in_X9 ⟨by decide +kernel, by decide +kernel, (by decide +kernel : (parseMethodDescriptor yX9_total.desc).map (fun d => d.parameters.length) = some 1)⟩ (kd_lt hk (by decide)) (by unfold wE; rw [hk]; rfl) rfl hM hfr hlo hst rfl kk
theorem cv_L_98 {k : Nat} {x0 : Int32} {f1 l1 : Nat} {V1 : Wd} {r : Int32} (F : Fx E G A RL cc nL ret fr lo kc ks) (hd : decode cc pc = .ok (.invokevirtual 98, 3)) (hk : kd k = 0) (hM : Ct (enL E) G yX8_leastWind cX8_leastWind 4 (some .int) f1 l1 [.ref (AD G k), .int x0] V (some (.int r)) V1) (hfr : f1 + 1 ≤ fr) (hlo : 8 + (4 + 11) + l1 ≤ lo) (hst : (st.map fun v => v.category).sum ≤ 8) (kk : Go E G A kc ks Q nL V1 (pc + 3) lv (.int r :: st)) : Go E G A kc ks Q nL V pc lv (.int x0 :: .ref (AD G k) :: st) :=
  go_callV (y := yX8_leastWind) (As := [.int x0]) (ci := 8) (C := RX8) (T := TX8) (N := 7) F hd ml_L_98 cw_X8_leastWind im_X8_leastWind se_X8_leastWind in_X8 ⟨by decide +kernel, by decide +kernel, (by decide +kernel : (parseMethodDescriptor yX8_leastWind.desc).map (fun d => d.parameters.length) = some 1)⟩ (kd_lt hk (by decide)) (by unfold wE; rw [hk]; rfl) rfl hM hfr hlo hst rfl kk
theorem cv_L_101 {k : Nat} {x0 : Int32} {f1 l1 : Nat} {V1 : Wd} {r : Int32} (F : Fx E G A RL cc nL ret fr lo kc ks) (hd : decode cc pc = .ok (.invokevirtual 101, 3)) (hk : kd k = 9) (hM : Ct (enL E) G yX9_leastWind cX9_leastWind 5 (some .int) f1 l1 [.ref (AD G k), .int x0] V (some (.int r)) V1) (hfr : f1 + 1 ≤ fr) (hlo : 8 + (5 + 11) + l1 ≤ lo) (hst : (st.map fun v => v.category).sum ≤ 8) (kk : Go E G A kc ks Q nL V1 (pc + 3) lv (.int r :: st)) : Go E G A kc ks Q nL V pc lv (.int x0 :: .ref (AD G k) :: st) :=
  go_callV (y := yX9_leastWind) (As := [.int x0]) (ci := 9) (C := RX9) (T := TX9) (N := 11) F hd ml_L_101 cw_X9_leastWind im_X9_leastWind se_X9_leastWind in_X9 ⟨by decide +kernel, by decide +kernel, (by decide +kernel : (parseMethodDescriptor yX9_leastWind.desc).map (fun d => d.parameters.length) = some 1)⟩ (kd_lt hk (by decide)) (by unfold wE; rw [hk]; rfl) rfl hM hfr hlo hst rfl kk
theorem cv_L_102 {k : Nat} {x0 : Int32} {f1 l1 : Nat} {V1 : Wd} {r : Int32} (F : Fx E G A RL cc nL ret fr lo kc ks) (hd : decode cc pc = .ok (.invokevirtual 102, 3)) (hk : kd k = 0) (hM : Ct (enL E) G yX8_ifTurned cX8_ifTurned 3 (some .int) f1 l1 [.ref (AD G k), .int x0] V (some (.int r)) V1) (hfr : f1 + 1 ≤ fr) (hlo : 8 + (3 + 11) + l1 ≤ lo) (hst : (st.map fun v => v.category).sum ≤ 8) (kk : Go E G A kc ks Q nL V1 (pc + 3) lv (.int r :: st)) : Go E G A kc ks Q nL V pc lv (.int x0 :: .ref (AD G k) :: st) :=
  go_callV (y := yX8_ifTurned) (As := [.int x0]) (ci := 8) (C := RX8) (T := TX8) (N := 7) F hd ml_L_102 cw_X8_ifTurned im_X8_ifTurned se_X8_ifTurned in_X8 ⟨by decide +kernel, by decide +kernel, (by decide +kernel : (parseMethodDescriptor yX8_ifTurned.desc).map (fun d => d.parameters.length) = some 1)⟩ (kd_lt hk (by decide)) (by unfold wE; rw [hk]; rfl) rfl hM hfr hlo hst rfl kk
theorem cv_L_105 {k : Nat} {x0 : Int32} {f1 l1 : Nat} {V1 : Wd} {r : Int32} (F : Fx E G A RL cc nL ret fr lo kc ks) (hd : decode cc pc = .ok (.invokevirtual 105, 3)) (hk : kd k = 9) (hM : Ct (enL E) G yX9_ifTurned cX9_ifTurned 3 (some .int) f1 l1 [.ref (AD G k), .int x0] V (some (.int r)) V1) (hfr : f1 + 1 ≤ fr) (hlo : 8 + (3 + 11) + l1 ≤ lo) (hst : (st.map fun v => v.category).sum ≤ 8) (kk : Go E G A kc ks Q nL V1 (pc + 3) lv (.int r :: st)) : Go E G A kc ks Q nL V pc lv (.int x0 :: .ref (AD G k) :: st) :=
  go_callV (y := yX9_ifTurned) (As := [.int x0]) (ci := 9) (C := RX9) (T := TX9) (N := 11) F hd ml_L_105 cw_X9_ifTurned im_X9_ifTurned se_X9_ifTurned in_X9 ⟨by decide +kernel, by decide +kernel, (by decide +kernel : (parseMethodDescriptor yX9_ifTurned.desc).map (fun d => d.parameters.length) = some 1)⟩ (kd_lt hk (by decide)) (by unfold wE; rw [hk]; rfl) rfl hM hfr hlo hst rfl kk
theorem cv_L_106 {k : Nat} {f1 l1 : Nat} {V1 : Wd} {r : Int32} (F : Fx E G A RL cc nL ret fr lo kc ks) (hd : decode cc pc = .ok (.invokevirtual 106, 3)) (hk : kd k = 0) (hM : Ct (enL E) G yX8_mendingExchange cX8_mendingExchange 3 (some .int) f1 l1 [.ref (AD G k)] V (some (.int r)) V1) (hfr : f1 + 1 ≤ fr) (hlo : 8 + (3 + 11) + l1 ≤ lo) (hst : (st.map fun v => v.category).sum ≤ 8) (kk : Go E G A kc ks Q nL V1 (pc + 3) lv (.int r :: st)) : Go E G A kc ks Q nL V pc lv (.ref (AD G k) :: st) :=
  go_callV (y := yX8_mendingExchange) (As := []) (ci := 8) (C := RX8) (T := TX8) (N := 7) F hd ml_L_106 cw_X8_mendingExchange im_X8_mendingExchange se_X8_mendingExchange in_X8 ⟨by decide +kernel, by decide +kernel, (by decide +kernel : (parseMethodDescriptor yX8_mendingExchange.desc).map (fun d => d.parameters.length) = some 0)⟩ (kd_lt hk (by decide)) (by unfold wE; rw [hk]; rfl) rfl hM hfr hlo hst rfl kk
theorem cv_L_109 {k : Nat} {f1 l1 : Nat} {V1 : Wd} {r : Int32} (F : Fx E G A RL cc nL ret fr lo kc ks) (hd : decode cc pc = .ok (.invokevirtual 109, 3)) (hk : kd k = 9) (hM : Ct (enL E) G yX9_mendingExchange cX9_mendingExchange 4 (some .int) f1 l1 [.ref (AD G k)] V (some (.int r)) V1) (hfr : f1 + 1 ≤ fr) (hlo : 8 + (4 + 11) + l1 ≤ lo) (hst : (st.map fun v => v.category).sum ≤ 8) (kk : Go E G A kc ks Q nL V1 (pc + 3) lv (.int r :: st)) : Go E G A kc ks Q nL V pc lv (.ref (AD G k) :: st) :=
  go_callV (y := yX9_mendingExchange) (As := []) (ci := 9) (C := RX9) (T := TX9) (N := 11) F hd ml_L_109 cw_X9_mendingExchange im_X9_mendingExchange se_X9_mendingExchange in_X9 ⟨by decide +kernel, by decide +kernel, (by decide +kernel : (parseMethodDescriptor yX9_mendingExchange.desc).map (fun d => d.parameters.length) = some 0)⟩ (kd_lt hk (by decide)) (by unfold wE; rw [hk]; rfl) rfl hM hfr hlo hst rfl kk
theorem cv_L_110 {k : Nat} {x0 : Int32} {f1 l1 : Nat} {V1 : Wd} {r : Int32} (F : Fx E G A RL cc nL ret fr lo kc ks) (hd : decode cc pc = .ok (.invokevirtual 110, 3)) (hk : kd k = 0) (hM : Ct (enL E) G yX8_bestEntry cX8_bestEntry 7 (some .int) f1 l1 [.ref (AD G k), .int x0] V (some (.int r)) V1) (hfr : f1 + 1 ≤ fr) (hlo : 8 + (7 + 11) + l1 ≤ lo) (hst : (st.map fun v => v.category).sum ≤ 8) (kk : Go E G A kc ks Q nL V1 (pc + 3) lv (.int r :: st)) : Go E G A kc ks Q nL V pc lv (.int x0 :: .ref (AD G k) :: st) :=
  go_callV (y := yX8_bestEntry) (As := [.int x0]) (ci := 8) (C := RX8) (T := TX8) (N := 7) F hd ml_L_110 cw_X8_bestEntry im_X8_bestEntry se_X8_bestEntry in_X8 ⟨by decide +kernel, by decide +kernel, (by decide +kernel : (parseMethodDescriptor yX8_bestEntry.desc).map (fun d => d.parameters.length) = some 1)⟩ (kd_lt hk (by decide)) (by unfold wE; rw [hk]; rfl) rfl hM hfr hlo hst rfl kk
theorem cv_L_113 {k : Nat} {x0 : Int32} {f1 l1 : Nat} {V1 : Wd} {r : Int32} (F : Fx E G A RL cc nL ret fr lo kc ks) (hd : decode cc pc = .ok (.invokevirtual 113, 3)) (hk : kd k = 9) (hM : Ct (enL E) G yX9_bestEntry cX9_bestEntry 5 (some .int) f1 l1 [.ref (AD G k), .int x0] V (some (.int r)) V1) (hfr : f1 + 1 ≤ fr) (hlo : 8 + (5 + 11) + l1 ≤ lo) (hst : (st.map fun v => v.category).sum ≤ 8) (kk : Go E G A kc ks Q nL V1 (pc + 3) lv (.int r :: st)) : Go E G A kc ks Q nL V pc lv (.int x0 :: .ref (AD G k) :: st) :=
  go_callV (y := yX9_bestEntry) (As := [.int x0]) (ci := 9) (C := RX9) (T := TX9) (N := 11) F hd ml_L_113 cw_X9_bestEntry im_X9_bestEntry se_X9_bestEntry in_X9 ⟨by decide +kernel, by decide +kernel, (by decide +kernel : (parseMethodDescriptor yX9_bestEntry.desc).map (fun d => d.parameters.length) = some 1)⟩ (kd_lt hk (by decide)) (by unfold wE; rw [hk]; rfl) rfl hM hfr hlo hst rfl kk
theorem cv_L_114 {k : Nat} {x0 : Int32} {f1 l1 : Nat} {V1 : Wd} {r : Int32} (F : Fx E G A RL cc nL ret fr lo kc ks) (hd : decode cc pc = .ok (.invokevirtual 114, 3)) (hk : kd k = 0) (hM : Ct (enL E) G yX8_append cX8_append 2 (some .int) f1 l1 [.ref (AD G k), .int x0] V (some (.int r)) V1) (hfr : f1 + 1 ≤ fr) (hlo : 8 + (2 + 11) + l1 ≤ lo) (hst : (st.map fun v => v.category).sum ≤ 8) (kk : Go E G A kc ks Q nL V1 (pc + 3) lv (.int r :: st)) : Go E G A kc ks Q nL V pc lv (.int x0 :: .ref (AD G k) :: st) :=
  go_callV (y := yX8_append) (As := [.int x0]) (ci := 8) (C := RX8) (T := TX8) (N := 7) F hd ml_L_114 cw_X8_append im_X8_append se_X8_append in_X8 ⟨by decide +kernel, by decide +kernel, (by decide +kernel : (parseMethodDescriptor yX8_append.desc).map (fun d => d.parameters.length) = some 1)⟩ (kd_lt hk (by decide)) (by unfold wE; rw [hk]; rfl) rfl hM hfr hlo hst rfl kk
theorem cv_L_117 {k : Nat} {x0 : Int32} {f1 l1 : Nat} {V1 : Wd} {r : Int32} (F : Fx E G A RL cc nL ret fr lo kc ks) (hd : decode cc pc = .ok (.invokevirtual 117, 3)) (hk : kd k = 9) (hM : Ct (enL E) G yX9_append cX9_append 2 (some .int) f1 l1 [.ref (AD G k), .int x0] V (some (.int r)) V1) (hfr : f1 + 1 ≤ fr) (hlo : 8 + (2 + 11) + l1 ≤ lo) (hst : (st.map fun v => v.category).sum ≤ 8) (kk : Go E G A kc ks Q nL V1 (pc + 3) lv (.int r :: st)) : Go E G A kc ks Q nL V pc lv (.int x0 :: .ref (AD G k) :: st) :=
  go_callV (y := yX9_append) (As := [.int x0]) (ci := 9) (C := RX9) (T := TX9) (N := 11) F hd ml_L_117 cw_X9_append im_X9_append se_X9_append in_X9 ⟨by decide +kernel, by decide +kernel, (by decide +kernel : (parseMethodDescriptor yX9_append.desc).map (fun d => d.parameters.length) = some 1)⟩ (kd_lt hk (by decide)) (by unfold wE; rw [hk]; rfl) rfl hM hfr hlo hst rfl kk
theorem cv_L_118 {k : Nat} {f1 l1 : Nat} {V1 : Wd} {r : Int32} (F : Fx E G A RL cc nL ret fr lo kc ks) (hd : decode cc pc = .ok (.invokevirtual 118, 3)) (hk : kd k = 0) (hM : Ct (enL E) G yX8_clearText cX8_clearText 2 (some .int) f1 l1 [.ref (AD G k)] V (some (.int r)) V1) (hfr : f1 + 1 ≤ fr) (hlo : 8 + (2 + 11) + l1 ≤ lo) (hst : (st.map fun v => v.category).sum ≤ 8) (kk : Go E G A kc ks Q nL V1 (pc + 3) lv (.int r :: st)) : Go E G A kc ks Q nL V pc lv (.ref (AD G k) :: st) :=
  go_callV (y := yX8_clearText) (As := []) (ci := 8) (C := RX8) (T := TX8) (N := 7) F hd ml_L_118 cw_X8_clearText im_X8_clearText se_X8_clearText in_X8 ⟨by decide +kernel, by decide +kernel, (by decide +kernel : (parseMethodDescriptor yX8_clearText.desc).map (fun d => d.parameters.length) = some 0)⟩ (kd_lt hk (by decide)) (by unfold wE; rw [hk]; rfl) rfl hM hfr hlo hst rfl kk
theorem cv_L_121 {k : Nat} {f1 l1 : Nat} {V1 : Wd} {r : Int32} (F : Fx E G A RL cc nL ret fr lo kc ks) (hd : decode cc pc = .ok (.invokevirtual 121, 3)) (hk : kd k = 9) (hM : Ct (enL E) G yX9_clearText cX9_clearText 2 (some .int) f1 l1 [.ref (AD G k)] V (some (.int r)) V1) (hfr : f1 + 1 ≤ fr) (hlo : 8 + (2 + 11) + l1 ≤ lo) (hst : (st.map fun v => v.category).sum ≤ 8) (kk : Go E G A kc ks Q nL V1 (pc + 3) lv (.int r :: st)) : Go E G A kc ks Q nL V pc lv (.ref (AD G k) :: st) :=
  go_callV (y := yX9_clearText) (As := []) (ci := 9) (C := RX9) (T := TX9) (N := 11) F hd ml_L_121 cw_X9_clearText im_X9_clearText se_X9_clearText in_X9 ⟨by decide +kernel, by decide +kernel, (by decide +kernel : (parseMethodDescriptor yX9_clearText.desc).map (fun d => d.parameters.length) = some 0)⟩ (kd_lt hk (by decide)) (by unfold wE; rw [hk]; rfl) rfl hM hfr hlo hst rfl kk
theorem cv_L_122 {k : Nat} {f1 l1 : Nat} {V1 : Wd} {r : Int32} (F : Fx E G A RL cc nL ret fr lo kc ks) (hd : decode cc pc = .ok (.invokevirtual 122, 3)) (hk : kd k = 0) (hM : Ct (enL E) G yX8_errorPosition cX8_errorPosition 1 (some .int) f1 l1 [.ref (AD G k)] V (some (.int r)) V1) (hfr : f1 + 1 ≤ fr) (hlo : 8 + (1 + 11) + l1 ≤ lo) (hst : (st.map fun v => v.category).sum ≤ 8) (kk : Go E G A kc ks Q nL V1 (pc + 3) lv (.int r :: st)) : Go E G A kc ks Q nL V pc lv (.ref (AD G k) :: st) :=
  go_callV (y := yX8_errorPosition) (As := []) (ci := 8) (C := RX8) (T := TX8) (N := 7) F hd ml_L_122 cw_X8_errorPosition im_X8_errorPosition se_X8_errorPosition in_X8 ⟨by decide +kernel, by decide +kernel, (by decide +kernel : (parseMethodDescriptor yX8_errorPosition.desc).map (fun d => d.parameters.length) = some 0)⟩ (kd_lt hk (by decide)) (by unfold wE; rw [hk]; rfl) rfl hM hfr hlo hst rfl kk
theorem cv_L_125 {k : Nat} {f1 l1 : Nat} {V1 : Wd} {r : Int32} (F : Fx E G A RL cc nL ret fr lo kc ks) (hd : decode cc pc = .ok (.invokevirtual 125, 3)) (hk : kd k = 9) (hM : Ct (enL E) G yX9_errorPosition cX9_errorPosition 2 (some .int) f1 l1 [.ref (AD G k)] V (some (.int r)) V1) (hfr : f1 + 1 ≤ fr) (hlo : 8 + (2 + 11) + l1 ≤ lo) (hst : (st.map fun v => v.category).sum ≤ 8) (kk : Go E G A kc ks Q nL V1 (pc + 3) lv (.int r :: st)) : Go E G A kc ks Q nL V pc lv (.ref (AD G k) :: st) :=
  go_callV (y := yX9_errorPosition) (As := []) (ci := 9) (C := RX9) (T := TX9) (N := 11) F hd ml_L_125 cw_X9_errorPosition im_X9_errorPosition se_X9_errorPosition in_X9 ⟨by decide +kernel, by decide +kernel, (by decide +kernel : (parseMethodDescriptor yX9_errorPosition.desc).map (fun d => d.parameters.length) = some 0)⟩ (kd_lt hk (by decide)) (by unfold wE; rw [hk]; rfl) rfl hM hfr hlo hst rfl kk
theorem cv_L_126 {k : Nat} {f1 l1 : Nat} {V1 : Wd} {r : Int32} (F : Fx E G A RL cc nL ret fr lo kc ks) (hd : decode cc pc = .ok (.invokevirtual 126, 3)) (hk : kd k = 0) (hM : Ct (enL E) G yX8_hoist cX8_hoist 1 (some .int) f1 l1 [.ref (AD G k)] V (some (.int r)) V1) (hfr : f1 + 1 ≤ fr) (hlo : 8 + (1 + 11) + l1 ≤ lo) (hst : (st.map fun v => v.category).sum ≤ 8) (kk : Go E G A kc ks Q nL V1 (pc + 3) lv (.int r :: st)) : Go E G A kc ks Q nL V pc lv (.ref (AD G k) :: st) :=
  go_callV (y := yX8_hoist) (As := []) (ci := 8) (C := RX8) (T := TX8) (N := 7) F hd ml_L_126 cw_X8_hoist im_X8_hoist se_X8_hoist in_X8 ⟨by decide +kernel, by decide +kernel, (by decide +kernel : (parseMethodDescriptor yX8_hoist.desc).map (fun d => d.parameters.length) = some 0)⟩ (kd_lt hk (by decide)) (by unfold wE; rw [hk]; rfl) rfl hM hfr hlo hst rfl kk
theorem cv_L_129 {k : Nat} {f1 l1 : Nat} {V1 : Wd} {r : Int32} (F : Fx E G A RL cc nL ret fr lo kc ks) (hd : decode cc pc = .ok (.invokevirtual 129, 3)) (hk : kd k = 9) (hM : Ct (enL E) G yX9_hoist cX9_hoist 3 (some .int) f1 l1 [.ref (AD G k)] V (some (.int r)) V1) (hfr : f1 + 1 ≤ fr) (hlo : 8 + (3 + 11) + l1 ≤ lo) (hst : (st.map fun v => v.category).sum ≤ 8) (kk : Go E G A kc ks Q nL V1 (pc + 3) lv (.int r :: st)) : Go E G A kc ks Q nL V pc lv (.ref (AD G k) :: st) :=
  go_callV (y := yX9_hoist) (As := []) (ci := 9) (C := RX9) (T := TX9) (N := 11) F hd ml_L_129 cw_X9_hoist im_X9_hoist se_X9_hoist in_X9 ⟨by decide +kernel, by decide +kernel, (by decide +kernel : (parseMethodDescriptor yX9_hoist.desc).map (fun d => d.parameters.length) = some 0)⟩ (kd_lt hk (by decide)) (by unfold wE; rw [hk]; rfl) rfl hM hfr hlo hst rfl kk
theorem cv_L_130 {k : Nat} {f1 l1 : Nat} {V1 : Wd} {r : Int32} (F : Fx E G A RL cc nL ret fr lo kc ks) (hd : decode cc pc = .ok (.invokevirtual 130, 3)) (hk : kd k = 0) (hM : Ct (enL E) G yX8_undo cX8_undo 1 (some .int) f1 l1 [.ref (AD G k)] V (some (.int r)) V1) (hfr : f1 + 1 ≤ fr) (hlo : 8 + (1 + 11) + l1 ≤ lo) (hst : (st.map fun v => v.category).sum ≤ 8) (kk : Go E G A kc ks Q nL V1 (pc + 3) lv (.int r :: st)) : Go E G A kc ks Q nL V pc lv (.ref (AD G k) :: st) :=
  go_callV (y := yX8_undo) (As := []) (ci := 8) (C := RX8) (T := TX8) (N := 7) F hd ml_L_130 cw_X8_undo im_X8_undo se_X8_undo in_X8 ⟨by decide +kernel, by decide +kernel, (by decide +kernel : (parseMethodDescriptor yX8_undo.desc).map (fun d => d.parameters.length) = some 0)⟩ (kd_lt hk (by decide)) (by unfold wE; rw [hk]; rfl) rfl hM hfr hlo hst rfl kk
theorem cv_L_133 {k : Nat} {f1 l1 : Nat} {V1 : Wd} {r : Int32} (F : Fx E G A RL cc nL ret fr lo kc ks) (hd : decode cc pc = .ok (.invokevirtual 133, 3)) (hk : kd k = 9) (hM : Ct (enL E) G yX9_undo cX9_undo 2 (some .int) f1 l1 [.ref (AD G k)] V (some (.int r)) V1) (hfr : f1 + 1 ≤ fr) (hlo : 8 + (2 + 11) + l1 ≤ lo) (hst : (st.map fun v => v.category).sum ≤ 8) (kk : Go E G A kc ks Q nL V1 (pc + 3) lv (.int r :: st)) : Go E G A kc ks Q nL V pc lv (.ref (AD G k) :: st) :=
  go_callV (y := yX9_undo) (As := []) (ci := 9) (C := RX9) (T := TX9) (N := 11) F hd ml_L_133 cw_X9_undo im_X9_undo se_X9_undo in_X9 ⟨by decide +kernel, by decide +kernel, (by decide +kernel : (parseMethodDescriptor yX9_undo.desc).map (fun d => d.parameters.length) = some 0)⟩ (kd_lt hk (by decide)) (by unfold wE; rw [hk]; rfl) rfl hM hfr hlo hst rfl kk
theorem cv_L_134 {k : Nat} {f1 l1 : Nat} {V1 : Wd} {r : Int32} (F : Fx E G A RL cc nL ret fr lo kc ks) (hd : decode cc pc = .ok (.invokevirtual 134, 3)) (hk : kd k = 0) (hM : Ct (enL E) G yX8_save cX8_save 1 (some .int) f1 l1 [.ref (AD G k)] V (some (.int r)) V1) (hfr : f1 + 1 ≤ fr) (hlo : 8 + (1 + 11) + l1 ≤ lo) (hst : (st.map fun v => v.category).sum ≤ 8) (kk : Go E G A kc ks Q nL V1 (pc + 3) lv (.int r :: st)) : Go E G A kc ks Q nL V pc lv (.ref (AD G k) :: st) :=
  go_callV (y := yX8_save) (As := []) (ci := 8) (C := RX8) (T := TX8) (N := 7) F hd ml_L_134 cw_X8_save im_X8_save se_X8_save in_X8 ⟨by decide +kernel, by decide +kernel, (by decide +kernel : (parseMethodDescriptor yX8_save.desc).map (fun d => d.parameters.length) = some 0)⟩ (kd_lt hk (by decide)) (by unfold wE; rw [hk]; rfl) rfl hM hfr hlo hst rfl kk
theorem cv_L_137 {k : Nat} {f1 l1 : Nat} {V1 : Wd} {r : Int32} (F : Fx E G A RL cc nL ret fr lo kc ks) (hd : decode cc pc = .ok (.invokevirtual 137, 3)) (hk : kd k = 9) (hM : Ct (enL E) G yX9_save cX9_save 2 (some .int) f1 l1 [.ref (AD G k)] V (some (.int r)) V1) (hfr : f1 + 1 ≤ fr) (hlo : 8 + (2 + 11) + l1 ≤ lo) (hst : (st.map fun v => v.category).sum ≤ 8) (kk : Go E G A kc ks Q nL V1 (pc + 3) lv (.int r :: st)) : Go E G A kc ks Q nL V pc lv (.ref (AD G k) :: st) :=
  go_callV (y := yX9_save) (As := []) (ci := 9) (C := RX9) (T := TX9) (N := 11) F hd ml_L_137 cw_X9_save im_X9_save se_X9_save in_X9 ⟨by decide +kernel, by decide +kernel, (by decide +kernel : (parseMethodDescriptor yX9_save.desc).map (fun d => d.parameters.length) = some 0)⟩ (kd_lt hk (by decide)) (by unfold wE; rw [hk]; rfl) rfl hM hfr hlo hst rfl kk
theorem cv_L_138 {k : Nat} {f1 l1 : Nat} {V1 : Wd} {r : Int32} (F : Fx E G A RL cc nL ret fr lo kc ks) (hd : decode cc pc = .ok (.invokevirtual 138, 3)) (hk : kd k = 0) (hM : Ct (enL E) G yX8_restore cX8_restore 1 (some .int) f1 l1 [.ref (AD G k)] V (some (.int r)) V1) (hfr : f1 + 1 ≤ fr) (hlo : 8 + (1 + 11) + l1 ≤ lo) (hst : (st.map fun v => v.category).sum ≤ 8) (kk : Go E G A kc ks Q nL V1 (pc + 3) lv (.int r :: st)) : Go E G A kc ks Q nL V pc lv (.ref (AD G k) :: st) :=
  go_callV (y := yX8_restore) (As := []) (ci := 8) (C := RX8) (T := TX8) (N := 7) F hd ml_L_138 cw_X8_restore im_X8_restore se_X8_restore in_X8 ⟨by decide +kernel, by decide +kernel, (by decide +kernel : (parseMethodDescriptor yX8_restore.desc).map (fun d => d.parameters.length) = some 0)⟩ (kd_lt hk (by decide)) (by unfold wE; rw [hk]; rfl) rfl hM hfr hlo hst rfl kk
theorem cv_L_141 {k : Nat} {f1 l1 : Nat} {V1 : Wd} {r : Int32} (F : Fx E G A RL cc nL ret fr lo kc ks) (hd : decode cc pc = .ok (.invokevirtual 141, 3)) (hk : kd k = 9) (hM : Ct (enL E) G yX9_restore cX9_restore 2 (some .int) f1 l1 [.ref (AD G k)] V (some (.int r)) V1) (hfr : f1 + 1 ≤ fr) (hlo : 8 + (2 + 11) + l1 ≤ lo) (hst : (st.map fun v => v.category).sum ≤ 8) (kk : Go E G A kc ks Q nL V1 (pc + 3) lv (.int r :: st)) : Go E G A kc ks Q nL V pc lv (.ref (AD G k) :: st) :=
  go_callV (y := yX9_restore) (As := []) (ci := 9) (C := RX9) (T := TX9) (N := 11) F hd ml_L_141 cw_X9_restore im_X9_restore se_X9_restore in_X9 ⟨by decide +kernel, by decide +kernel, (by decide +kernel : (parseMethodDescriptor yX9_restore.desc).map (fun d => d.parameters.length) = some 0)⟩ (kd_lt hk (by decide)) (by unfold wE; rw [hk]; rfl) rfl hM hfr hlo hst rfl kk
theorem cv_X0_28 {x0 : Int32} {x1 : Int32} {f1 l1 : Nat} {V1 : Wd} {r : Int32} (F : Fx E G A RX0 cc nL ret fr lo kc ks) (hd : decode cc pc = .ok (.invokestatic 28, 3)) (hM : Ct (enL E) G yX8_isBelow cX8_isBelow 2 (some .boolean) f1 l1 [.int x0, .int x1] V (some (.int r)) V1) (hfr : f1 + 1 ≤ fr) (hlo : 8 + (2 + 11) + l1 ≤ lo) (hst : (st.map fun v => v.category).sum ≤ 8) (kk : Go E G A kc ks Q nL V1 (pc + 3) lv (.int r :: st)) : Go E G A kc ks Q nL V pc lv (.int x1 :: .int x0 :: st) :=
  go_callN (y := yX8_isBelow) (As := [.int x0, .int x1]) F hd nwi10 cw_X8_isBelow sm_X8_isBelow in_X8 ⟨by decide +kernel, by decide +kernel, (by decide +kernel : (parseMethodDescriptor yX8_isBelow.desc).map (fun d => d.parameters.length) = some 2)⟩ hM hfr hlo hst rfl kk
theorem cv_X1_27 {x0 : Int32} {x1 : Int32} {f1 l1 : Nat} {V1 : Wd} {r : Int32} (F : Fx E G A RX1 cc nL ret fr lo kc ks) (hd : decode cc pc = .ok (.invokestatic 27, 3)) (hM : Ct (enL E) G yX8_isBelow cX8_isBelow 2 (some .boolean) f1 l1 [.int x0, .int x1] V (some (.int r)) V1) (hfr : f1 + 1 ≤ fr) (hlo : 8 + (2 + 11) + l1 ≤ lo) (hst : (st.map fun v => v.category).sum ≤ 8) (kk : Go E G A kc ks Q nL V1 (pc + 3) lv (.int r :: st)) : Go E G A kc ks Q nL V pc lv (.int x1 :: .int x0 :: st) :=
  go_callN (y := yX8_isBelow) (As := [.int x0, .int x1]) F hd nwi5 cw_X8_isBelow sm_X8_isBelow in_X8 ⟨by decide +kernel, by decide +kernel, (by decide +kernel : (parseMethodDescriptor yX8_isBelow.desc).map (fun d => d.parameters.length) = some 2)⟩ hM hfr hlo hst rfl kk
theorem cv_X1_31 {k : Nat} {x0 : Int32} {x1 : Int32} {f1 l1 : Nat} {V1 : Wd} {r : Int32} (F : Fx E G A RX1 cc nL ret fr lo kc ks) (hd : decode cc pc = .ok (.invokevirtual 31, 3)) (hk : kd k = 2) (hM : Ct (enL E) G yX1_firstWith cX1_firstWith 4 (some .int) f1 l1 [.ref (AD G k), .int x0, .int x1] V (some (.int r)) V1) (hfr : f1 + 1 ≤ fr) (hlo : 8 + (4 + 11) + l1 ≤ lo) (hst : (st.map fun v => v.category).sum ≤ 8) (kk : Go E G A kc ks Q nL V1 (pc + 3) lv (.int r :: st)) : Go E G A kc ks Q nL V pc lv (.int x1 :: .int x0 :: .ref (AD G k) :: st) :=
  go_callV (y := yX1_firstWith) (As := [.int x0, .int x1]) (ci := 1) (C := RX1) (T := TX1) (N := 3) F hd ml_X1_31 cw_X1_firstWith im_X1_firstWith se_X1_firstWith in_X1 ⟨by decide +kernel, by decide +kernel, (by decide +kernel : (parseMethodDescriptor yX1_firstWith.desc).map (fun d => d.parameters.length) = some 2)⟩ (kd_lt hk (by decide)) (by unfold wE; rw [hk]; rfl) rfl hM hfr hlo hst rfl kk
theorem cv_X2_25 {k : Nat} {x0 : Int32} {f1 l1 : Nat} {V1 : Wd} {r : Option Nat} (F : Fx E G A RX2 cc nL ret fr lo kc ks) (hd : decode cc pc = .ok (.invokevirtual 25, 3)) (hk : kd k = 6) (hM : Ct (enL E) G yX2_slotAt cX2_slotAt 2 (some (.object "MastFlags$State")) f1 l1 [.ref (AD G k), .int x0] V (some (refv G r)) V1) (hfr : f1 + 1 ≤ fr) (hlo : 8 + (2 + 11) + l1 ≤ lo) (hst : (st.map fun v => v.category).sum ≤ 8) (kk : Go E G A kc ks Q nL V1 (pc + 3) lv (refv G r :: st)) : Go E G A kc ks Q nL V pc lv (.int x0 :: .ref (AD G k) :: st) :=
  go_callV (y := yX2_slotAt) (As := [.int x0]) (ci := 2) (C := RX2) (T := TX2) (N := 3) F hd ml_X2_25 cw_X2_slotAt im_X2_slotAt se_X2_slotAt in_X2 ⟨by decide +kernel, by decide +kernel, (by decide +kernel : (parseMethodDescriptor yX2_slotAt.desc).map (fun d => d.parameters.length) = some 1)⟩ (kd_lt hk (by decide)) (by unfold wE; rw [hk]; rfl) rfl hM hfr hlo hst rfl kk
theorem cv_X2_29 {k : Nat} {k0 : Nat} {f1 l1 : Nat} {V1 : Wd} (F : Fx E G A RX2 cc nL ret fr lo kc ks) (hd : decode cc pc = .ok (.invokevirtual 29, 3)) (hk : kd k = 1) (hM : Ct (enL E) G yX6_copyFrom cX6_copyFrom 2 none f1 l1 [.ref (AD G k), .ref (AD G k0)] V none V1) (hfr : f1 + 1 ≤ fr) (hlo : 8 + (2 + 11) + l1 ≤ lo) (hst : (st.map fun v => v.category).sum ≤ 8) (kk : Go E G A kc ks Q nL V1 (pc + 3) lv (st)) : Go E G A kc ks Q nL V pc lv (.ref (AD G k0) :: .ref (AD G k) :: st) :=
  go_callV (y := yX6_copyFrom) (As := [.ref (AD G k0)]) (ci := 6) (C := RX6) (T := TX6) (N := 9) F hd ml_X2_29 cw_X6_copyFrom im_X6_copyFrom se_X6_copyFrom in_X6 ⟨by decide +kernel, by decide +kernel, (by decide +kernel : (parseMethodDescriptor yX6_copyFrom.desc).map (fun d => d.parameters.length) = some 1)⟩ (kd_lt hk (by decide)) (by unfold wE; rw [hk]; rfl) rfl hM hfr hlo hst rfl kk
theorem cv_X2_39 {x0 : Int32} {x1 : Int32} {f1 l1 : Nat} {V1 : Wd} {r : Int32} (F : Fx E G A RX2 cc nL ret fr lo kc ks) (hd : decode cc pc = .ok (.invokestatic 39, 3)) (hM : Ct (enL E) G yX8_isBelow cX8_isBelow 2 (some .boolean) f1 l1 [.int x0, .int x1] V (some (.int r)) V1) (hfr : f1 + 1 ≤ fr) (hlo : 8 + (2 + 11) + l1 ≤ lo) (hst : (st.map fun v => v.category).sum ≤ 8) (kk : Go E G A kc ks Q nL V1 (pc + 3) lv (.int r :: st)) : Go E G A kc ks Q nL V pc lv (.int x1 :: .int x0 :: st) :=
  go_callN (y := yX8_isBelow) (As := [.int x0, .int x1]) F hd nwi4 cw_X8_isBelow sm_X8_isBelow in_X8 ⟨by decide +kernel, by decide +kernel, (by decide +kernel : (parseMethodDescriptor yX8_isBelow.desc).map (fun d => d.parameters.length) = some 2)⟩ hM hfr hlo hst rfl kk
theorem cv_X3_24 {x0 : Int32} {x1 : Int32} {f1 l1 : Nat} {V1 : Wd} {r : Int32} (F : Fx E G A RX3 cc nL ret fr lo kc ks) (hd : decode cc pc = .ok (.invokestatic 24, 3)) (hM : Ct (enL E) G yX8_isBelow cX8_isBelow 2 (some .boolean) f1 l1 [.int x0, .int x1] V (some (.int r)) V1) (hfr : f1 + 1 ≤ fr) (hlo : 8 + (2 + 11) + l1 ≤ lo) (hst : (st.map fun v => v.category).sum ≤ 8) (kk : Go E G A kc ks Q nL V1 (pc + 3) lv (.int r :: st)) : Go E G A kc ks Q nL V pc lv (.int x1 :: .int x0 :: st) :=
  go_callN (y := yX8_isBelow) (As := [.int x0, .int x1]) F hd nwi6 cw_X8_isBelow sm_X8_isBelow in_X8 ⟨by decide +kernel, by decide +kernel, (by decide +kernel : (parseMethodDescriptor yX8_isBelow.desc).map (fun d => d.parameters.length) = some 2)⟩ hM hfr hlo hst rfl kk
theorem cv_X3_28 {k : Nat} {x0 : Int32} {x1 : Int32} {f1 l1 : Nat} {V1 : Wd} {r : Int32} (F : Fx E G A RX3 cc nL ret fr lo kc ks) (hd : decode cc pc = .ok (.invokevirtual 28, 3)) (hk : kd k = 3) (hM : Ct (enL E) G yX3_has cX3_has 3 (some .boolean) f1 l1 [.ref (AD G k), .int x0, .int x1] V (some (.int r)) V1) (hfr : f1 + 1 ≤ fr) (hlo : 8 + (3 + 11) + l1 ≤ lo) (hst : (st.map fun v => v.category).sum ≤ 8) (kk : Go E G A kc ks Q nL V1 (pc + 3) lv (.int r :: st)) : Go E G A kc ks Q nL V pc lv (.int x1 :: .int x0 :: .ref (AD G k) :: st) :=
  go_callV (y := yX3_has) (As := [.int x0, .int x1]) (ci := 3) (C := RX3) (T := TX3) (N := 2) F hd ml_X3_28 cw_X3_has im_X3_has se_X3_has in_X3 ⟨by decide +kernel, by decide +kernel, (by decide +kernel : (parseMethodDescriptor yX3_has.desc).map (fun d => d.parameters.length) = some 2)⟩ (kd_lt hk (by decide)) (by unfold wE; rw [hk]; rfl) rfl hM hfr hlo hst rfl kk
theorem cv_X3_31 {k : Nat} {x0 : Int32} {x1 : Int32} {f1 l1 : Nat} {V1 : Wd} {r : Int32} (F : Fx E G A RX3 cc nL ret fr lo kc ks) (hd : decode cc pc = .ok (.invokevirtual 31, 3)) (hk : kd k = 3) (hM : Ct (enL E) G yX3_signAt cX3_signAt 3 (some .int) f1 l1 [.ref (AD G k), .int x0, .int x1] V (some (.int r)) V1) (hfr : f1 + 1 ≤ fr) (hlo : 8 + (3 + 11) + l1 ≤ lo) (hst : (st.map fun v => v.category).sum ≤ 8) (kk : Go E G A kc ks Q nL V1 (pc + 3) lv (.int r :: st)) : Go E G A kc ks Q nL V pc lv (.int x1 :: .int x0 :: .ref (AD G k) :: st) :=
  go_callV (y := yX3_signAt) (As := [.int x0, .int x1]) (ci := 3) (C := RX3) (T := TX3) (N := 2) F hd ml_X3_31 cw_X3_signAt im_X3_signAt se_X3_signAt in_X3 ⟨by decide +kernel, by decide +kernel, (by decide +kernel : (parseMethodDescriptor yX3_signAt.desc).map (fun d => d.parameters.length) = some 2)⟩ (kd_lt hk (by decide)) (by unfold wE; rw [hk]; rfl) rfl hM hfr hlo hst rfl kk
theorem cv_X3_35 {k : Nat} {x0 : Int32} {f1 l1 : Nat} {V1 : Wd} {r : Int32} (F : Fx E G A RX3 cc nL ret fr lo kc ks) (hd : decode cc pc = .ok (.invokevirtual 35, 3)) (hk : kd k = 3) (hM : Ct (enL E) G yX3_sizeOf cX3_sizeOf 2 (some .int) f1 l1 [.ref (AD G k), .int x0] V (some (.int r)) V1) (hfr : f1 + 1 ≤ fr) (hlo : 8 + (2 + 11) + l1 ≤ lo) (hst : (st.map fun v => v.category).sum ≤ 8) (kk : Go E G A kc ks Q nL V1 (pc + 3) lv (.int r :: st)) : Go E G A kc ks Q nL V pc lv (.int x0 :: .ref (AD G k) :: st) :=
  go_callV (y := yX3_sizeOf) (As := [.int x0]) (ci := 3) (C := RX3) (T := TX3) (N := 2) F hd ml_X3_35 cw_X3_sizeOf im_X3_sizeOf se_X3_sizeOf in_X3 ⟨by decide +kernel, by decide +kernel, (by decide +kernel : (parseMethodDescriptor yX3_sizeOf.desc).map (fun d => d.parameters.length) = some 1)⟩ (kd_lt hk (by decide)) (by unfold wE; rw [hk]; rfl) rfl hM hfr hlo hst rfl kk
theorem cv_X3_39 {k : Nat} {x0 : Int32} {f1 l1 : Nat} {V1 : Wd} {r : Int32} (F : Fx E G A RX3 cc nL ret fr lo kc ks) (hd : decode cc pc = .ok (.invokevirtual 39, 3)) (hk : kd k = 3) (hM : Ct (enL E) G yX3_countOf cX3_countOf 5 (some .int) f1 l1 [.ref (AD G k), .int x0] V (some (.int r)) V1) (hfr : f1 + 1 ≤ fr) (hlo : 8 + (5 + 11) + l1 ≤ lo) (hst : (st.map fun v => v.category).sum ≤ 8) (kk : Go E G A kc ks Q nL V1 (pc + 3) lv (.int r :: st)) : Go E G A kc ks Q nL V pc lv (.int x0 :: .ref (AD G k) :: st) :=
  go_callV (y := yX3_countOf) (As := [.int x0]) (ci := 3) (C := RX3) (T := TX3) (N := 2) F hd ml_X3_39 cw_X3_countOf im_X3_countOf se_X3_countOf in_X3 ⟨by decide +kernel, by decide +kernel, (by decide +kernel : (parseMethodDescriptor yX3_countOf.desc).map (fun d => d.parameters.length) = some 1)⟩ (kd_lt hk (by decide)) (by unfold wE; rw [hk]; rfl) rfl hM hfr hlo hst rfl kk
theorem cv_X4_31 {x0 : Int32} {x1 : Int32} {f1 l1 : Nat} {V1 : Wd} {r : Int32} (F : Fx E G A RX4 cc nL ret fr lo kc ks) (hd : decode cc pc = .ok (.invokestatic 31, 3)) (hM : Ct (enL E) G yX8_isBelow cX8_isBelow 2 (some .boolean) f1 l1 [.int x0, .int x1] V (some (.int r)) V1) (hfr : f1 + 1 ≤ fr) (hlo : 8 + (2 + 11) + l1 ≤ lo) (hst : (st.map fun v => v.category).sum ≤ 8) (kk : Go E G A kc ks Q nL V1 (pc + 3) lv (.int r :: st)) : Go E G A kc ks Q nL V pc lv (.int x1 :: .int x0 :: st) :=
  go_callN (y := yX8_isBelow) (As := [.int x0, .int x1]) F hd nwi9 cw_X8_isBelow sm_X8_isBelow in_X8 ⟨by decide +kernel, by decide +kernel, (by decide +kernel : (parseMethodDescriptor yX8_isBelow.desc).map (fun d => d.parameters.length) = some 2)⟩ hM hfr hlo hst rfl kk
theorem cv_X5_25 {x0 : Int32} {x1 : Int32} {f1 l1 : Nat} {V1 : Wd} {r : Int32} (F : Fx E G A RX5 cc nL ret fr lo kc ks) (hd : decode cc pc = .ok (.invokestatic 25, 3)) (hM : Ct (enL E) G yX8_isHoistFirst cX8_isHoistFirst 2 (some .boolean) f1 l1 [.int x0, .int x1] V (some (.int r)) V1) (hfr : f1 + 1 ≤ fr) (hlo : 8 + (2 + 11) + l1 ≤ lo) (hst : (st.map fun v => v.category).sum ≤ 8) (kk : Go E G A kc ks Q nL V1 (pc + 3) lv (.int r :: st)) : Go E G A kc ks Q nL V pc lv (.int x1 :: .int x0 :: st) :=
  go_callN (y := yX8_isHoistFirst) (As := [.int x0, .int x1]) F hd nwi7 cw_X8_isHoistFirst sm_X8_isHoistFirst in_X8 ⟨by decide +kernel, by decide +kernel, (by decide +kernel : (parseMethodDescriptor yX8_isHoistFirst.desc).map (fun d => d.parameters.length) = some 2)⟩ hM hfr hlo hst rfl kk
theorem cv_X5_29 {k : Nat} {x0 : Int32} {x1 : Int32} {x2 : Int32} {f1 l1 : Nat} {V1 : Wd} {r : Int32} (F : Fx E G A RX5 cc nL ret fr lo kc ks) (hd : decode cc pc = .ok (.invokevirtual 29, 3)) (hk : kd k = 1) (hM : Ct (enL E) G yX6_readHoist cX6_readHoist 8 (some .int) f1 l1 [.ref (AD G k), .int x0, .int x1, .int x2] V (some (.int r)) V1) (hfr : f1 + 1 ≤ fr) (hlo : 8 + (8 + 11) + l1 ≤ lo) (hst : (st.map fun v => v.category).sum ≤ 8) (kk : Go E G A kc ks Q nL V1 (pc + 3) lv (.int r :: st)) : Go E G A kc ks Q nL V pc lv (.int x2 :: .int x1 :: .int x0 :: .ref (AD G k) :: st) :=
  go_callV (y := yX6_readHoist) (As := [.int x0, .int x1, .int x2]) (ci := 6) (C := RX6) (T := TX6) (N := 9) F hd ml_X5_29 cw_X6_readHoist im_X6_readHoist se_X6_readHoist in_X6 ⟨by decide +kernel, by decide +kernel, (by decide +kernel : (parseMethodDescriptor yX6_readHoist.desc).map (fun d => d.parameters.length) = some 3)⟩ (kd_lt hk (by decide)) (by unfold wE; rw [hk]; rfl) rfl hM hfr hlo hst rfl kk
theorem cv_X5_35 {k : Nat} {x0 : Int32} {x1 : Int32} {f1 l1 : Nat} {V1 : Wd} (F : Fx E G A RX5 cc nL ret fr lo kc ks) (hd : decode cc pc = .ok (.invokevirtual 35, 3)) (hk : kd k = 8) (hM : Ct (enL E) G yX5_arrange cX5_arrange 5 none f1 l1 [.ref (AD G k), .int x0, .int x1] V none V1) (hfr : f1 + 1 ≤ fr) (hlo : 8 + (5 + 11) + l1 ≤ lo) (hst : (st.map fun v => v.category).sum ≤ 8) (kk : Go E G A kc ks Q nL V1 (pc + 3) lv (st)) : Go E G A kc ks Q nL V pc lv (.int x1 :: .int x0 :: .ref (AD G k) :: st) :=
  go_callV (y := yX5_arrange) (As := [.int x0, .int x1]) (ci := 5) (C := RX5) (T := TX5) (N := 4) F hd ml_X5_35 cw_X5_arrange im_X5_arrange se_X5_arrange in_X5 ⟨by decide +kernel, by decide +kernel, (by decide +kernel : (parseMethodDescriptor yX5_arrange.desc).map (fun d => d.parameters.length) = some 2)⟩ (kd_lt hk (by decide)) (by unfold wE; rw [hk]; rfl) rfl hM hfr hlo hst rfl kk
theorem cv_X5_39 {x0 : Int32} {x1 : Int32} {f1 l1 : Nat} {V1 : Wd} {r : Int32} (F : Fx E G A RX5 cc nL ret fr lo kc ks) (hd : decode cc pc = .ok (.invokestatic 39, 3)) (hM : Ct (enL E) G yX8_isBelow cX8_isBelow 2 (some .boolean) f1 l1 [.int x0, .int x1] V (some (.int r)) V1) (hfr : f1 + 1 ≤ fr) (hlo : 8 + (2 + 11) + l1 ≤ lo) (hst : (st.map fun v => v.category).sum ≤ 8) (kk : Go E G A kc ks Q nL V1 (pc + 3) lv (.int r :: st)) : Go E G A kc ks Q nL V pc lv (.int x1 :: .int x0 :: st) :=
  go_callN (y := yX8_isBelow) (As := [.int x0, .int x1]) F hd nwi8 cw_X8_isBelow sm_X8_isBelow in_X8 ⟨by decide +kernel, by decide +kernel, (by decide +kernel : (parseMethodDescriptor yX8_isBelow.desc).map (fun d => d.parameters.length) = some 2)⟩ hM hfr hlo hst rfl kk
theorem cv_X5_42 {k : Nat} {f1 l1 : Nat} {V1 : Wd} {r : Int32} (F : Fx E G A RX5 cc nL ret fr lo kc ks) (hd : decode cc pc = .ok (.invokevirtual 42, 3)) (hk : kd k = 8) (hM : Ct (enL E) G yX5_countKnown cX5_countKnown 3 (some .int) f1 l1 [.ref (AD G k)] V (some (.int r)) V1) (hfr : f1 + 1 ≤ fr) (hlo : 8 + (3 + 11) + l1 ≤ lo) (hst : (st.map fun v => v.category).sum ≤ 8) (kk : Go E G A kc ks Q nL V1 (pc + 3) lv (.int r :: st)) : Go E G A kc ks Q nL V pc lv (.ref (AD G k) :: st) :=
  go_callV (y := yX5_countKnown) (As := []) (ci := 5) (C := RX5) (T := TX5) (N := 4) F hd ml_X5_42 cw_X5_countKnown im_X5_countKnown se_X5_countKnown in_X5 ⟨by decide +kernel, by decide +kernel, (by decide +kernel : (parseMethodDescriptor yX5_countKnown.desc).map (fun d => d.parameters.length) = some 0)⟩ (kd_lt hk (by decide)) (by unfold wE; rw [hk]; rfl) rfl hM hfr hlo hst rfl kk
theorem cv_X5_46 {k : Nat} {f1 l1 : Nat} {V1 : Wd} {r : Int32} (F : Fx E G A RX5 cc nL ret fr lo kc ks) (hd : decode cc pc = .ok (.invokevirtual 46, 3)) (hk : kd k = 8) (hM : Ct (enL E) G yX5_knowsAll cX5_knowsAll 1 (some .boolean) f1 l1 [.ref (AD G k)] V (some (.int r)) V1) (hfr : f1 + 1 ≤ fr) (hlo : 8 + (1 + 11) + l1 ≤ lo) (hst : (st.map fun v => v.category).sum ≤ 8) (kk : Go E G A kc ks Q nL V1 (pc + 3) lv (.int r :: st)) : Go E G A kc ks Q nL V pc lv (.ref (AD G k) :: st) :=
  go_callV (y := yX5_knowsAll) (As := []) (ci := 5) (C := RX5) (T := TX5) (N := 4) F hd ml_X5_46 cw_X5_knowsAll im_X5_knowsAll se_X5_knowsAll in_X5 ⟨by decide +kernel, by decide +kernel, (by decide +kernel : (parseMethodDescriptor yX5_knowsAll.desc).map (fun d => d.parameters.length) = some 0)⟩ (kd_lt hk (by decide)) (by unfold wE; rw [hk]; rfl) rfl hM hfr hlo hst rfl kk
theorem cv_X6_55 {k : Nat} {k0 : Nat} {f1 l1 : Nat} {V1 : Wd} (F : Fx E G A RX6 cc nL ret fr lo kc ks) (hd : decode cc pc = .ok (.invokevirtual 55, 3)) (hk : kd k = 2) (hM : Ct (enL E) G yX1_copyFrom cX1_copyFrom 2 none f1 l1 [.ref (AD G k), .ref (AD G k0)] V none V1) (hfr : f1 + 1 ≤ fr) (hlo : 8 + (2 + 11) + l1 ≤ lo) (hst : (st.map fun v => v.category).sum ≤ 8) (kk : Go E G A kc ks Q nL V1 (pc + 3) lv (st)) : Go E G A kc ks Q nL V pc lv (.ref (AD G k0) :: .ref (AD G k) :: st) :=
  go_callV (y := yX1_copyFrom) (As := [.ref (AD G k0)]) (ci := 1) (C := RX1) (T := TX1) (N := 3) F hd ml_X6_55 cw_X1_copyFrom im_X1_copyFrom se_X1_copyFrom in_X1 ⟨by decide +kernel, by decide +kernel, (by decide +kernel : (parseMethodDescriptor yX1_copyFrom.desc).map (fun d => d.parameters.length) = some 1)⟩ (kd_lt hk (by decide)) (by unfold wE; rw [hk]; rfl) rfl hM hfr hlo hst rfl kk
theorem cv_X6_59 {k : Nat} {k0 : Nat} {f1 l1 : Nat} {V1 : Wd} (F : Fx E G A RX6 cc nL ret fr lo kc ks) (hd : decode cc pc = .ok (.invokevirtual 59, 3)) (hk : kd k = 3) (hM : Ct (enL E) G yX3_copyFrom cX3_copyFrom 2 none f1 l1 [.ref (AD G k), .ref (AD G k0)] V none V1) (hfr : f1 + 1 ≤ fr) (hlo : 8 + (2 + 11) + l1 ≤ lo) (hst : (st.map fun v => v.category).sum ≤ 8) (kk : Go E G A kc ks Q nL V1 (pc + 3) lv (st)) : Go E G A kc ks Q nL V pc lv (.ref (AD G k0) :: .ref (AD G k) :: st) :=
  go_callV (y := yX3_copyFrom) (As := [.ref (AD G k0)]) (ci := 3) (C := RX3) (T := TX3) (N := 2) F hd ml_X6_59 cw_X3_copyFrom im_X3_copyFrom se_X3_copyFrom in_X3 ⟨by decide +kernel, by decide +kernel, (by decide +kernel : (parseMethodDescriptor yX3_copyFrom.desc).map (fun d => d.parameters.length) = some 1)⟩ (kd_lt hk (by decide)) (by unfold wE; rw [hk]; rfl) rfl hM hfr hlo hst rfl kk
theorem cv_X6_62 {k : Nat} {k0 : Nat} {f1 l1 : Nat} {V1 : Wd} (F : Fx E G A RX6 cc nL ret fr lo kc ks) (hd : decode cc pc = .ok (.invokevirtual 62, 3)) (hk : kd k = 4) (hM : Ct (enL E) G yX0_copyFrom cX0_copyFrom 2 none f1 l1 [.ref (AD G k), .ref (AD G k0)] V none V1) (hfr : f1 + 1 ≤ fr) (hlo : 8 + (2 + 11) + l1 ≤ lo) (hst : (st.map fun v => v.category).sum ≤ 8) (kk : Go E G A kc ks Q nL V1 (pc + 3) lv (st)) : Go E G A kc ks Q nL V pc lv (.ref (AD G k0) :: .ref (AD G k) :: st) :=
  go_callV (y := yX0_copyFrom) (As := [.ref (AD G k0)]) (ci := 0) (C := RX0) (T := TX0) (N := 3) F hd ml_X6_62 cw_X0_copyFrom im_X0_copyFrom se_X0_copyFrom in_X0 ⟨by decide +kernel, by decide +kernel, (by decide +kernel : (parseMethodDescriptor yX0_copyFrom.desc).map (fun d => d.parameters.length) = some 1)⟩ (kd_lt hk (by decide)) (by unfold wE; rw [hk]; rfl) rfl hM hfr hlo hst rfl kk
theorem cv_X6_65 {k : Nat} {k0 : Nat} {f1 l1 : Nat} {V1 : Wd} (F : Fx E G A RX6 cc nL ret fr lo kc ks) (hd : decode cc pc = .ok (.invokevirtual 65, 3)) (hk : kd k = 5) (hM : Ct (enL E) G yX4_copyFrom cX4_copyFrom 2 none f1 l1 [.ref (AD G k), .ref (AD G k0)] V none V1) (hfr : f1 + 1 ≤ fr) (hlo : 8 + (2 + 11) + l1 ≤ lo) (hst : (st.map fun v => v.category).sum ≤ 8) (kk : Go E G A kc ks Q nL V1 (pc + 3) lv (st)) : Go E G A kc ks Q nL V pc lv (.ref (AD G k0) :: .ref (AD G k) :: st) :=
  go_callV (y := yX4_copyFrom) (As := [.ref (AD G k0)]) (ci := 4) (C := RX4) (T := TX4) (N := 4) F hd ml_X6_65 cw_X4_copyFrom im_X4_copyFrom se_X4_copyFrom in_X4 ⟨by decide +kernel, by decide +kernel, (by decide +kernel : (parseMethodDescriptor yX4_copyFrom.desc).map (fun d => d.parameters.length) = some 1)⟩ (kd_lt hk (by decide)) (by unfold wE; rw [hk]; rfl) rfl hM hfr hlo hst rfl kk
theorem cv_X6_68 {k : Nat} {x0 : Int32} {f1 l1 : Nat} {V1 : Wd} {r : Int32} (F : Fx E G A RX6 cc nL ret fr lo kc ks) (hd : decode cc pc = .ok (.invokevirtual 68, 3)) (hk : kd k = 3) (hM : Ct (enL E) G yX3_sizeOf cX3_sizeOf 2 (some .int) f1 l1 [.ref (AD G k), .int x0] V (some (.int r)) V1) (hfr : f1 + 1 ≤ fr) (hlo : 8 + (2 + 11) + l1 ≤ lo) (hst : (st.map fun v => v.category).sum ≤ 8) (kk : Go E G A kc ks Q nL V1 (pc + 3) lv (.int r :: st)) : Go E G A kc ks Q nL V pc lv (.int x0 :: .ref (AD G k) :: st) :=
  go_callV (y := yX3_sizeOf) (As := [.int x0]) (ci := 3) (C := RX3) (T := TX3) (N := 2) F hd ml_X6_68 cw_X3_sizeOf im_X3_sizeOf se_X3_sizeOf in_X3 ⟨by decide +kernel, by decide +kernel, (by decide +kernel : (parseMethodDescriptor yX3_sizeOf.desc).map (fun d => d.parameters.length) = some 1)⟩ (kd_lt hk (by decide)) (by unfold wE; rw [hk]; rfl) rfl hM hfr hlo hst rfl kk
theorem cv_X6_72 {k : Nat} {x0 : Int32} {x1 : Int32} {f1 l1 : Nat} {V1 : Wd} {r : Int32} (F : Fx E G A RX6 cc nL ret fr lo kc ks) (hd : decode cc pc = .ok (.invokevirtual 72, 3)) (hk : kd k = 3) (hM : Ct (enL E) G yX3_flagAt cX3_flagAt 5 (some .int) f1 l1 [.ref (AD G k), .int x0, .int x1] V (some (.int r)) V1) (hfr : f1 + 1 ≤ fr) (hlo : 8 + (5 + 11) + l1 ≤ lo) (hst : (st.map fun v => v.category).sum ≤ 8) (kk : Go E G A kc ks Q nL V1 (pc + 3) lv (.int r :: st)) : Go E G A kc ks Q nL V pc lv (.int x1 :: .int x0 :: .ref (AD G k) :: st) :=
  go_callV (y := yX3_flagAt) (As := [.int x0, .int x1]) (ci := 3) (C := RX3) (T := TX3) (N := 2) F hd ml_X6_72 cw_X3_flagAt im_X3_flagAt se_X3_flagAt in_X3 ⟨by decide +kernel, by decide +kernel, (by decide +kernel : (parseMethodDescriptor yX3_flagAt.desc).map (fun d => d.parameters.length) = some 2)⟩ (kd_lt hk (by decide)) (by unfold wE; rw [hk]; rfl) rfl hM hfr hlo hst rfl kk
theorem cv_X6_76 {k : Nat} {x0 : Int32} {x1 : Int32} {x2 : Int32} {f1 l1 : Nat} {V1 : Wd} {r : Int32} (F : Fx E G A RX6 cc nL ret fr lo kc ks) (hd : decode cc pc = .ok (.invokevirtual 76, 3)) (hk : kd k = 2) (hM : Ct (enL E) G yX1_takenFor cX1_takenFor 4 (some .int) f1 l1 [.ref (AD G k), .int x0, .int x1, .int x2] V (some (.int r)) V1) (hfr : f1 + 1 ≤ fr) (hlo : 8 + (4 + 11) + l1 ≤ lo) (hst : (st.map fun v => v.category).sum ≤ 8) (kk : Go E G A kc ks Q nL V1 (pc + 3) lv (.int r :: st)) : Go E G A kc ks Q nL V pc lv (.int x2 :: .int x1 :: .int x0 :: .ref (AD G k) :: st) :=
  go_callV (y := yX1_takenFor) (As := [.int x0, .int x1, .int x2]) (ci := 1) (C := RX1) (T := TX1) (N := 3) F hd ml_X6_76 cw_X1_takenFor im_X1_takenFor se_X1_takenFor in_X1 ⟨by decide +kernel, by decide +kernel, (by decide +kernel : (parseMethodDescriptor yX1_takenFor.desc).map (fun d => d.parameters.length) = some 3)⟩ (kd_lt hk (by decide)) (by unfold wE; rw [hk]; rfl) rfl hM hfr hlo hst rfl kk
theorem cv_X6_80 {k : Nat} {x0 : Int32} {f1 l1 : Nat} {V1 : Wd} {r : Int32} (F : Fx E G A RX6 cc nL ret fr lo kc ks) (hd : decode cc pc = .ok (.invokevirtual 80, 3)) (hk : kd k = 4) (hM : Ct (enL E) G yX0_wordFor cX0_wordFor 3 (some .int) f1 l1 [.ref (AD G k), .int x0] V (some (.int r)) V1) (hfr : f1 + 1 ≤ fr) (hlo : 8 + (3 + 11) + l1 ≤ lo) (hst : (st.map fun v => v.category).sum ≤ 8) (kk : Go E G A kc ks Q nL V1 (pc + 3) lv (.int r :: st)) : Go E G A kc ks Q nL V pc lv (.int x0 :: .ref (AD G k) :: st) :=
  go_callV (y := yX0_wordFor) (As := [.int x0]) (ci := 0) (C := RX0) (T := TX0) (N := 3) F hd ml_X6_80 cw_X0_wordFor im_X0_wordFor se_X0_wordFor in_X0 ⟨by decide +kernel, by decide +kernel, (by decide +kernel : (parseMethodDescriptor yX0_wordFor.desc).map (fun d => d.parameters.length) = some 1)⟩ (kd_lt hk (by decide)) (by unfold wE; rw [hk]; rfl) rfl hM hfr hlo hst rfl kk
theorem cv_X7_32 {x0 : Int32} {x1 : Int32} {f1 l1 : Nat} {V1 : Wd} {r : Int32} (F : Fx E G A RX7 cc nL ret fr lo kc ks) (hd : decode cc pc = .ok (.invokestatic 32, 3)) (hM : Ct (enL E) G yX8_isBelow cX8_isBelow 2 (some .boolean) f1 l1 [.int x0, .int x1] V (some (.int r)) V1) (hfr : f1 + 1 ≤ fr) (hlo : 8 + (2 + 11) + l1 ≤ lo) (hst : (st.map fun v => v.category).sum ≤ 8) (kk : Go E G A kc ks Q nL V1 (pc + 3) lv (.int r :: st)) : Go E G A kc ks Q nL V pc lv (.int x1 :: .int x0 :: st) :=
  go_callN (y := yX8_isBelow) (As := [.int x0, .int x1]) F hd nwi11 cw_X8_isBelow sm_X8_isBelow in_X8 ⟨by decide +kernel, by decide +kernel, (by decide +kernel : (parseMethodDescriptor yX8_isBelow.desc).map (fun d => d.parameters.length) = some 2)⟩ hM hfr hlo hst rfl kk
theorem cv_X7_36 {k : Nat} {f1 l1 : Nat} {V1 : Wd} (F : Fx E G A RX7 cc nL ret fr lo kc ks) (hd : decode cc pc = .ok (.invokevirtual 36, 3)) (hk : kd k = 3) (hM : Ct (enL E) G yX3_clear cX3_clear 2 none f1 l1 [.ref (AD G k)] V none V1) (hfr : f1 + 1 ≤ fr) (hlo : 8 + (2 + 11) + l1 ≤ lo) (hst : (st.map fun v => v.category).sum ≤ 8) (kk : Go E G A kc ks Q nL V1 (pc + 3) lv (st)) : Go E G A kc ks Q nL V pc lv (.ref (AD G k) :: st) :=
  go_callV (y := yX3_clear) (As := []) (ci := 3) (C := RX3) (T := TX3) (N := 2) F hd ml_X7_36 cw_X3_clear im_X3_clear se_X3_clear in_X3 ⟨by decide +kernel, by decide +kernel, (by decide +kernel : (parseMethodDescriptor yX3_clear.desc).map (fun d => d.parameters.length) = some 0)⟩ (kd_lt hk (by decide)) (by unfold wE; rw [hk]; rfl) rfl hM hfr hlo hst rfl kk
theorem cv_X7_39 {k : Nat} {x0 : Int32} {f1 l1 : Nat} {V1 : Wd} {r : Int32} (F : Fx E G A RX7 cc nL ret fr lo kc ks) (hd : decode cc pc = .ok (.invokevirtual 39, 3)) (hk : kd k = 7) (hM : Ct (enL E) G yX7_accept cX7_accept 2 (some .boolean) f1 l1 [.ref (AD G k), .int x0] V (some (.int r)) V1) (hfr : f1 + 1 ≤ fr) (hlo : 8 + (2 + 11) + l1 ≤ lo) (hst : (st.map fun v => v.category).sum ≤ 8) (kk : Go E G A kc ks Q nL V1 (pc + 3) lv (.int r :: st)) : Go E G A kc ks Q nL V pc lv (.int x0 :: .ref (AD G k) :: st) :=
  go_callV (y := yX7_accept) (As := [.int x0]) (ci := 7) (C := RX7) (T := TX7) (N := 5) F hd ml_X7_39 cw_X7_accept im_X7_accept se_X7_accept in_X7 ⟨by decide +kernel, by decide +kernel, (by decide +kernel : (parseMethodDescriptor yX7_accept.desc).map (fun d => d.parameters.length) = some 1)⟩ (kd_lt hk (by decide)) (by unfold wE; rw [hk]; rfl) rfl hM hfr hlo hst rfl kk
theorem cv_X7_43 {k : Nat} {x0 : Int32} {f1 l1 : Nat} {V1 : Wd} {r : Int32} (F : Fx E G A RX7 cc nL ret fr lo kc ks) (hd : decode cc pc = .ok (.invokevirtual 43, 3)) (hk : kd k = 7) (hM : Ct (enL E) G yX7_acceptHalyard cX7_acceptHalyard 2 (some .boolean) f1 l1 [.ref (AD G k), .int x0] V (some (.int r)) V1) (hfr : f1 + 1 ≤ fr) (hlo : 8 + (2 + 11) + l1 ≤ lo) (hst : (st.map fun v => v.category).sum ≤ 8) (kk : Go E G A kc ks Q nL V1 (pc + 3) lv (.int r :: st)) : Go E G A kc ks Q nL V pc lv (.int x0 :: .ref (AD G k) :: st) :=
  go_callV (y := yX7_acceptHalyard) (As := [.int x0]) (ci := 7) (C := RX7) (T := TX7) (N := 5) F hd ml_X7_43 cw_X7_acceptHalyard im_X7_acceptHalyard se_X7_acceptHalyard in_X7 ⟨by decide +kernel, by decide +kernel, (by decide +kernel : (parseMethodDescriptor yX7_acceptHalyard.desc).map (fun d => d.parameters.length) = some 1)⟩ (kd_lt hk (by decide)) (by unfold wE; rw [hk]; rfl) rfl hM hfr hlo hst rfl kk
theorem cv_X7_46 {k : Nat} {x0 : Int32} {f1 l1 : Nat} {V1 : Wd} {r : Int32} (F : Fx E G A RX7 cc nL ret fr lo kc ks) (hd : decode cc pc = .ok (.invokevirtual 46, 3)) (hk : kd k = 7) (hM : Ct (enL E) G yX7_acceptFlag cX7_acceptFlag 2 (some .boolean) f1 l1 [.ref (AD G k), .int x0] V (some (.int r)) V1) (hfr : f1 + 1 ≤ fr) (hlo : 8 + (2 + 11) + l1 ≤ lo) (hst : (st.map fun v => v.category).sum ≤ 8) (kk : Go E G A kc ks Q nL V1 (pc + 3) lv (.int r :: st)) : Go E G A kc ks Q nL V pc lv (.int x0 :: .ref (AD G k) :: st) :=
  go_callV (y := yX7_acceptFlag) (As := [.int x0]) (ci := 7) (C := RX7) (T := TX7) (N := 5) F hd ml_X7_46 cw_X7_acceptFlag im_X7_acceptFlag se_X7_acceptFlag in_X7 ⟨by decide +kernel, by decide +kernel, (by decide +kernel : (parseMethodDescriptor yX7_acceptFlag.desc).map (fun d => d.parameters.length) = some 1)⟩ (kd_lt hk (by decide)) (by unfold wE; rw [hk]; rfl) rfl hM hfr hlo hst rfl kk
theorem cv_X7_49 {k : Nat} {x0 : Int32} {f1 l1 : Nat} {V1 : Wd} {r : Int32} (F : Fx E G A RX7 cc nL ret fr lo kc ks) (hd : decode cc pc = .ok (.invokevirtual 49, 3)) (hk : kd k = 7) (hM : Ct (enL E) G yX7_acceptMore cX7_acceptMore 2 (some .boolean) f1 l1 [.ref (AD G k), .int x0] V (some (.int r)) V1) (hfr : f1 + 1 ≤ fr) (hlo : 8 + (2 + 11) + l1 ≤ lo) (hst : (st.map fun v => v.category).sum ≤ 8) (kk : Go E G A kc ks Q nL V1 (pc + 3) lv (.int r :: st)) : Go E G A kc ks Q nL V pc lv (.int x0 :: .ref (AD G k) :: st) :=
  go_callV (y := yX7_acceptMore) (As := [.int x0]) (ci := 7) (C := RX7) (T := TX7) (N := 5) F hd ml_X7_49 cw_X7_acceptMore im_X7_acceptMore se_X7_acceptMore in_X7 ⟨by decide +kernel, by decide +kernel, (by decide +kernel : (parseMethodDescriptor yX7_acceptMore.desc).map (fun d => d.parameters.length) = some 1)⟩ (kd_lt hk (by decide)) (by unfold wE; rw [hk]; rfl) rfl hM hfr hlo hst rfl kk
theorem cv_X7_52 {k : Nat} {x0 : Int32} {f1 l1 : Nat} {V1 : Wd} {r : Int32} (F : Fx E G A RX7 cc nL ret fr lo kc ks) (hd : decode cc pc = .ok (.invokevirtual 52, 3)) (hk : kd k = 7) (hM : Ct (enL E) G yX7_acceptPennant cX7_acceptPennant 2 (some .boolean) f1 l1 [.ref (AD G k), .int x0] V (some (.int r)) V1) (hfr : f1 + 1 ≤ fr) (hlo : 8 + (2 + 11) + l1 ≤ lo) (hst : (st.map fun v => v.category).sum ≤ 8) (kk : Go E G A kc ks Q nL V1 (pc + 3) lv (.int r :: st)) : Go E G A kc ks Q nL V pc lv (.int x0 :: .ref (AD G k) :: st) :=
  go_callV (y := yX7_acceptPennant) (As := [.int x0]) (ci := 7) (C := RX7) (T := TX7) (N := 5) F hd ml_X7_52 cw_X7_acceptPennant im_X7_acceptPennant se_X7_acceptPennant in_X7 ⟨by decide +kernel, by decide +kernel, (by decide +kernel : (parseMethodDescriptor yX7_acceptPennant.desc).map (fun d => d.parameters.length) = some 1)⟩ (kd_lt hk (by decide)) (by unfold wE; rw [hk]; rfl) rfl hM hfr hlo hst rfl kk
theorem cv_X7_55 {k : Nat} {x0 : Int32} {f1 l1 : Nat} {V1 : Wd} {r : Int32} (F : Fx E G A RX7 cc nL ret fr lo kc ks) (hd : decode cc pc = .ok (.invokevirtual 55, 3)) (hk : kd k = 3) (hM : Ct (enL E) G yX3_sizeOf cX3_sizeOf 2 (some .int) f1 l1 [.ref (AD G k), .int x0] V (some (.int r)) V1) (hfr : f1 + 1 ≤ fr) (hlo : 8 + (2 + 11) + l1 ≤ lo) (hst : (st.map fun v => v.category).sum ≤ 8) (kk : Go E G A kc ks Q nL V1 (pc + 3) lv (.int r :: st)) : Go E G A kc ks Q nL V pc lv (.int x0 :: .ref (AD G k) :: st) :=
  go_callV (y := yX3_sizeOf) (As := [.int x0]) (ci := 3) (C := RX3) (T := TX3) (N := 2) F hd ml_X7_55 cw_X3_sizeOf im_X3_sizeOf se_X3_sizeOf in_X3 ⟨by decide +kernel, by decide +kernel, (by decide +kernel : (parseMethodDescriptor yX3_sizeOf.desc).map (fun d => d.parameters.length) = some 1)⟩ (kd_lt hk (by decide)) (by unfold wE; rw [hk]; rfl) rfl hM hfr hlo hst rfl kk
theorem cv_X7_59 {k : Nat} {x0 : Int32} {x1 : Int32} {f1 l1 : Nat} {V1 : Wd} (F : Fx E G A RX7 cc nL ret fr lo kc ks) (hd : decode cc pc = .ok (.invokevirtual 59, 3)) (hk : kd k = 3) (hM : Ct (enL E) G yX3_add cX3_add 3 none f1 l1 [.ref (AD G k), .int x0, .int x1] V none V1) (hfr : f1 + 1 ≤ fr) (hlo : 8 + (3 + 11) + l1 ≤ lo) (hst : (st.map fun v => v.category).sum ≤ 8) (kk : Go E G A kc ks Q nL V1 (pc + 3) lv (st)) : Go E G A kc ks Q nL V pc lv (.int x1 :: .int x0 :: .ref (AD G k) :: st) :=
  go_callV (y := yX3_add) (As := [.int x0, .int x1]) (ci := 3) (C := RX3) (T := TX3) (N := 2) F hd ml_X7_59 cw_X3_add im_X3_add se_X3_add in_X3 ⟨by decide +kernel, by decide +kernel, (by decide +kernel : (parseMethodDescriptor yX3_add.desc).map (fun d => d.parameters.length) = some 2)⟩ (kd_lt hk (by decide)) (by unfold wE; rw [hk]; rfl) rfl hM hfr hlo hst rfl kk
theorem cv_X8_49 {x0 : Int32} {x1 : Int32} {f1 l1 : Nat} {V1 : Wd} {r : Int32} (F : Fx E G A RX8 cc nL ret fr lo kc ks) (hd : decode cc pc = .ok (.invokestatic 49, 3)) (hM : Ct (enL E) G yX8_isBelow cX8_isBelow 2 (some .boolean) f1 l1 [.int x0, .int x1] V (some (.int r)) V1) (hfr : f1 + 1 ≤ fr) (hlo : 8 + (2 + 11) + l1 ≤ lo) (hst : (st.map fun v => v.category).sum ≤ 8) (kk : Go E G A kc ks Q nL V1 (pc + 3) lv (.int r :: st)) : Go E G A kc ks Q nL V pc lv (.int x1 :: .int x0 :: st) :=
  go_callS (y := yX8_isBelow) (As := [.int x0, .int x1]) F hd ml_X8_49 cw_X8_isBelow sm_X8_isBelow in_X8 ⟨by decide +kernel, by decide +kernel, (by decide +kernel : (parseMethodDescriptor yX8_isBelow.desc).map (fun d => d.parameters.length) = some 2)⟩ hM hfr hlo hst rfl kk
theorem cv_X8_53 {k : Nat} {f1 l1 : Nat} {V1 : Wd} (F : Fx E G A RX8 cc nL ret fr lo kc ks) (hd : decode cc pc = .ok (.invokevirtual 53, 3)) (hk : kd k = 0) (hM : Ct (enL E) G yX8_recordAndBringPennantDown cX8_recordAndBringPennantDown 1 none f1 l1 [.ref (AD G k)] V none V1) (hfr : f1 + 1 ≤ fr) (hlo : 8 + (1 + 11) + l1 ≤ lo) (hst : (st.map fun v => v.category).sum ≤ 8) (kk : Go E G A kc ks Q nL V1 (pc + 3) lv (st)) : Go E G A kc ks Q nL V pc lv (.ref (AD G k) :: st) :=
  go_callV (y := yX8_recordAndBringPennantDown) (As := []) (ci := 8) (C := RX8) (T := TX8) (N := 7) F hd ml_X8_53 cw_X8_recordAndBringPennantDown im_X8_recordAndBringPennantDown se_X8_recordAndBringPennantDown in_X8 ⟨by decide +kernel, by decide +kernel, (by decide +kernel : (parseMethodDescriptor yX8_recordAndBringPennantDown.desc).map (fun d => d.parameters.length) = some 0)⟩ (kd_lt hk (by decide)) (by unfold wE; rw [hk]; rfl) rfl hM hfr hlo hst rfl kk
theorem cv_X8_60 {k : Nat} {x0 : Int32} {x1 : Int32} {x2 : Int32} {x3 : Int32} {f1 l1 : Nat} {V1 : Wd} (F : Fx E G A RX8 cc nL ret fr lo kc ks) (hd : decode cc pc = .ok (.invokevirtual 60, 3)) (hk : kd k = 2) (hM : Ct (enL E) G yX1_change cX1_change 5 none f1 l1 [.ref (AD G k), .int x0, .int x1, .int x2, .int x3] V none V1) (hfr : f1 + 1 ≤ fr) (hlo : 8 + (5 + 11) + l1 ≤ lo) (hst : (st.map fun v => v.category).sum ≤ 8) (kk : Go E G A kc ks Q nL V1 (pc + 3) lv (st)) : Go E G A kc ks Q nL V pc lv (.int x3 :: .int x2 :: .int x1 :: .int x0 :: .ref (AD G k) :: st) :=
  go_callV (y := yX1_change) (As := [.int x0, .int x1, .int x2, .int x3]) (ci := 1) (C := RX1) (T := TX1) (N := 3) F hd ml_X8_60 cw_X1_change im_X1_change se_X1_change in_X1 ⟨by decide +kernel, by decide +kernel, (by decide +kernel : (parseMethodDescriptor yX1_change.desc).map (fun d => d.parameters.length) = some 4)⟩ (kd_lt hk (by decide)) (by unfold wE; rw [hk]; rfl) rfl hM hfr hlo hst rfl kk
theorem cv_X8_66 {k : Nat} {x0 : Int32} {x1 : Int32} {f1 l1 : Nat} {V1 : Wd} {r : Int32} (F : Fx E G A RX8 cc nL ret fr lo kc ks) (hd : decode cc pc = .ok (.invokevirtual 66, 3)) (hk : kd k = 2) (hM : Ct (enL E) G yX1_countWith cX1_countWith 5 (some .int) f1 l1 [.ref (AD G k), .int x0, .int x1] V (some (.int r)) V1) (hfr : f1 + 1 ≤ fr) (hlo : 8 + (5 + 11) + l1 ≤ lo) (hst : (st.map fun v => v.category).sum ≤ 8) (kk : Go E G A kc ks Q nL V1 (pc + 3) lv (.int r :: st)) : Go E G A kc ks Q nL V pc lv (.int x1 :: .int x0 :: .ref (AD G k) :: st) :=
  go_callV (y := yX1_countWith) (As := [.int x0, .int x1]) (ci := 1) (C := RX1) (T := TX1) (N := 3) F hd ml_X8_66 cw_X1_countWith im_X1_countWith se_X1_countWith in_X1 ⟨by decide +kernel, by decide +kernel, (by decide +kernel : (parseMethodDescriptor yX1_countWith.desc).map (fun d => d.parameters.length) = some 2)⟩ (kd_lt hk (by decide)) (by unfold wE; rw [hk]; rfl) rfl hM hfr hlo hst rfl kk
theorem cv_X8_74 {k : Nat} {f1 l1 : Nat} {V1 : Wd} {r : Int32} (F : Fx E G A RX8 cc nL ret fr lo kc ks) (hd : decode cc pc = .ok (.invokevirtual 74, 3)) (hk : kd k = 3) (hM : Ct (enL E) G yX3_mostOfAKind cX3_mostOfAKind 3 (some .int) f1 l1 [.ref (AD G k)] V (some (.int r)) V1) (hfr : f1 + 1 ≤ fr) (hlo : 8 + (3 + 11) + l1 ≤ lo) (hst : (st.map fun v => v.category).sum ≤ 8) (kk : Go E G A kc ks Q nL V1 (pc + 3) lv (.int r :: st)) : Go E G A kc ks Q nL V pc lv (.ref (AD G k) :: st) :=
  go_callV (y := yX3_mostOfAKind) (As := []) (ci := 3) (C := RX3) (T := TX3) (N := 2) F hd ml_X8_74 cw_X3_mostOfAKind im_X3_mostOfAKind se_X3_mostOfAKind in_X3 ⟨by decide +kernel, by decide +kernel, (by decide +kernel : (parseMethodDescriptor yX3_mostOfAKind.desc).map (fun d => d.parameters.length) = some 0)⟩ (kd_lt hk (by decide)) (by unfold wE; rw [hk]; rfl) rfl hM hfr hlo hst rfl kk
theorem cv_X8_80 {k : Nat} {k0 : Nat} {f1 l1 : Nat} {V1 : Wd} (F : Fx E G A RX8 cc nL ret fr lo kc ks) (hd : decode cc pc = .ok (.invokevirtual 80, 3)) (hk : kd k = 6) (hM : Ct (enL E) G yX2_record cX2_record 3 none f1 l1 [.ref (AD G k), .ref (AD G k0)] V none V1) (hfr : f1 + 1 ≤ fr) (hlo : 8 + (3 + 11) + l1 ≤ lo) (hst : (st.map fun v => v.category).sum ≤ 8) (kk : Go E G A kc ks Q nL V1 (pc + 3) lv (st)) : Go E G A kc ks Q nL V pc lv (.ref (AD G k0) :: .ref (AD G k) :: st) :=
  go_callV (y := yX2_record) (As := [.ref (AD G k0)]) (ci := 2) (C := RX2) (T := TX2) (N := 3) F hd ml_X8_80 cw_X2_record im_X2_record se_X2_record in_X2 ⟨by decide +kernel, by decide +kernel, (by decide +kernel : (parseMethodDescriptor yX2_record.desc).map (fun d => d.parameters.length) = some 1)⟩ (kd_lt hk (by decide)) (by unfold wE; rw [hk]; rfl) rfl hM hfr hlo hst rfl kk
theorem cv_X8_94 {k : Nat} {x0 : Int32} {f1 l1 : Nat} {V1 : Wd} {r : Int32} (F : Fx E G A RX8 cc nL ret fr lo kc ks) (hd : decode cc pc = .ok (.invokevirtual 94, 3)) (hk : kd k = 2) (hM : Ct (enL E) G yX1_atHoist cX1_atHoist 2 (some .int) f1 l1 [.ref (AD G k), .int x0] V (some (.int r)) V1) (hfr : f1 + 1 ≤ fr) (hlo : 8 + (2 + 11) + l1 ≤ lo) (hst : (st.map fun v => v.category).sum ≤ 8) (kk : Go E G A kc ks Q nL V1 (pc + 3) lv (.int r :: st)) : Go E G A kc ks Q nL V pc lv (.int x0 :: .ref (AD G k) :: st) :=
  go_callV (y := yX1_atHoist) (As := [.int x0]) (ci := 1) (C := RX1) (T := TX1) (N := 3) F hd ml_X8_94 cw_X1_atHoist im_X1_atHoist se_X1_atHoist in_X1 ⟨by decide +kernel, by decide +kernel, (by decide +kernel : (parseMethodDescriptor yX1_atHoist.desc).map (fun d => d.parameters.length) = some 1)⟩ (kd_lt hk (by decide)) (by unfold wE; rw [hk]; rfl) rfl hM hfr hlo hst rfl kk
theorem cv_X8_98 {k : Nat} {x0 : Int32} {f1 l1 : Nat} {V1 : Wd} {r : Int32} (F : Fx E G A RX8 cc nL ret fr lo kc ks) (hd : decode cc pc = .ok (.invokevirtual 98, 3)) (hk : kd k = 2) (hM : Ct (enL E) G yX1_atFly cX1_atFly 2 (some .int) f1 l1 [.ref (AD G k), .int x0] V (some (.int r)) V1) (hfr : f1 + 1 ≤ fr) (hlo : 8 + (2 + 11) + l1 ≤ lo) (hst : (st.map fun v => v.category).sum ≤ 8) (kk : Go E G A kc ks Q nL V1 (pc + 3) lv (.int r :: st)) : Go E G A kc ks Q nL V pc lv (.int x0 :: .ref (AD G k) :: st) :=
  go_callV (y := yX1_atFly) (As := [.int x0]) (ci := 1) (C := RX1) (T := TX1) (N := 3) F hd ml_X8_98 cw_X1_atFly im_X1_atFly se_X1_atFly in_X1 ⟨by decide +kernel, by decide +kernel, (by decide +kernel : (parseMethodDescriptor yX1_atFly.desc).map (fun d => d.parameters.length) = some 1)⟩ (kd_lt hk (by decide)) (by unfold wE; rw [hk]; rfl) rfl hM hfr hlo hst rfl kk
theorem cv_X8_101 {k : Nat} {x0 : Int32} {f1 l1 : Nat} {V1 : Wd} {r : Int32} (F : Fx E G A RX8 cc nL ret fr lo kc ks) (hd : decode cc pc = .ok (.invokevirtual 101, 3)) (hk : kd k = 2) (hM : Ct (enL E) G yX1_weightOf cX1_weightOf 2 (some .int) f1 l1 [.ref (AD G k), .int x0] V (some (.int r)) V1) (hfr : f1 + 1 ≤ fr) (hlo : 8 + (2 + 11) + l1 ≤ lo) (hst : (st.map fun v => v.category).sum ≤ 8) (kk : Go E G A kc ks Q nL V1 (pc + 3) lv (.int r :: st)) : Go E G A kc ks Q nL V pc lv (.int x0 :: .ref (AD G k) :: st) :=
  go_callV (y := yX1_weightOf) (As := [.int x0]) (ci := 1) (C := RX1) (T := TX1) (N := 3) F hd ml_X8_101 cw_X1_weightOf im_X1_weightOf se_X1_weightOf in_X1 ⟨by decide +kernel, by decide +kernel, (by decide +kernel : (parseMethodDescriptor yX1_weightOf.desc).map (fun d => d.parameters.length) = some 1)⟩ (kd_lt hk (by decide)) (by unfold wE; rw [hk]; rfl) rfl hM hfr hlo hst rfl kk
theorem cv_X8_104 {k : Nat} {x0 : Int32} {f1 l1 : Nat} {V1 : Wd} {r : Int32} (F : Fx E G A RX8 cc nL ret fr lo kc ks) (hd : decode cc pc = .ok (.invokevirtual 104, 3)) (hk : kd k = 3) (hM : Ct (enL E) G yX3_countOf cX3_countOf 5 (some .int) f1 l1 [.ref (AD G k), .int x0] V (some (.int r)) V1) (hfr : f1 + 1 ≤ fr) (hlo : 8 + (5 + 11) + l1 ≤ lo) (hst : (st.map fun v => v.category).sum ≤ 8) (kk : Go E G A kc ks Q nL V1 (pc + 3) lv (.int r :: st)) : Go E G A kc ks Q nL V pc lv (.int x0 :: .ref (AD G k) :: st) :=
  go_callV (y := yX3_countOf) (As := [.int x0]) (ci := 3) (C := RX3) (T := TX3) (N := 2) F hd ml_X8_104 cw_X3_countOf im_X3_countOf se_X3_countOf in_X3 ⟨by decide +kernel, by decide +kernel, (by decide +kernel : (parseMethodDescriptor yX3_countOf.desc).map (fun d => d.parameters.length) = some 1)⟩ (kd_lt hk (by decide)) (by unfold wE; rw [hk]; rfl) rfl hM hfr hlo hst rfl kk
theorem cv_X8_107 {k : Nat} {x0 : Int32} {x1 : Int32} {f1 l1 : Nat} {V1 : Wd} {r : Int32} (F : Fx E G A RX8 cc nL ret fr lo kc ks) (hd : decode cc pc = .ok (.invokevirtual 107, 3)) (hk : kd k = 2) (hM : Ct (enL E) G yX1_firstWith cX1_firstWith 4 (some .int) f1 l1 [.ref (AD G k), .int x0, .int x1] V (some (.int r)) V1) (hfr : f1 + 1 ≤ fr) (hlo : 8 + (4 + 11) + l1 ≤ lo) (hst : (st.map fun v => v.category).sum ≤ 8) (kk : Go E G A kc ks Q nL V1 (pc + 3) lv (.int r :: st)) : Go E G A kc ks Q nL V pc lv (.int x1 :: .int x0 :: .ref (AD G k) :: st) :=
  go_callV (y := yX1_firstWith) (As := [.int x0, .int x1]) (ci := 1) (C := RX1) (T := TX1) (N := 3) F hd ml_X8_107 cw_X1_firstWith im_X1_firstWith se_X1_firstWith in_X1 ⟨by decide +kernel, by decide +kernel, (by decide +kernel : (parseMethodDescriptor yX1_firstWith.desc).map (fun d => d.parameters.length) = some 2)⟩ (kd_lt hk (by decide)) (by unfold wE; rw [hk]; rfl) rfl hM hfr hlo hst rfl kk
theorem cv_X8_110 {x0 : Int32} {f1 l1 : Nat} {V1 : Wd} {r : Int32} (F : Fx E G A RX8 cc nL ret fr lo kc ks) (hd : decode cc pc = .ok (.invokestatic 110, 3)) (hM : Ct (enL E) G yX8_isSign cX8_isSign 1 (some .boolean) f1 l1 [.int x0] V (some (.int r)) V1) (hfr : f1 + 1 ≤ fr) (hlo : 8 + (1 + 11) + l1 ≤ lo) (hst : (st.map fun v => v.category).sum ≤ 8) (kk : Go E G A kc ks Q nL V1 (pc + 3) lv (.int r :: st)) : Go E G A kc ks Q nL V pc lv (.int x0 :: st) :=
  go_callS (y := yX8_isSign) (As := [.int x0]) F hd ml_X8_110 cw_X8_isSign sm_X8_isSign in_X8 ⟨by decide +kernel, by decide +kernel, (by decide +kernel : (parseMethodDescriptor yX8_isSign.desc).map (fun d => d.parameters.length) = some 1)⟩ hM hfr hlo hst rfl kk
theorem cv_X8_114 {k : Nat} {x0 : Int32} {f1 l1 : Nat} {V1 : Wd} {r : Int32} (F : Fx E G A RX8 cc nL ret fr lo kc ks) (hd : decode cc pc = .ok (.invokevirtual 114, 3)) (hk : kd k = 3) (hM : Ct (enL E) G yX3_sizeOf cX3_sizeOf 2 (some .int) f1 l1 [.ref (AD G k), .int x0] V (some (.int r)) V1) (hfr : f1 + 1 ≤ fr) (hlo : 8 + (2 + 11) + l1 ≤ lo) (hst : (st.map fun v => v.category).sum ≤ 8) (kk : Go E G A kc ks Q nL V1 (pc + 3) lv (.int r :: st)) : Go E G A kc ks Q nL V pc lv (.int x0 :: .ref (AD G k) :: st) :=
  go_callV (y := yX3_sizeOf) (As := [.int x0]) (ci := 3) (C := RX3) (T := TX3) (N := 2) F hd ml_X8_114 cw_X3_sizeOf im_X3_sizeOf se_X3_sizeOf in_X3 ⟨by decide +kernel, by decide +kernel, (by decide +kernel : (parseMethodDescriptor yX3_sizeOf.desc).map (fun d => d.parameters.length) = some 1)⟩ (kd_lt hk (by decide)) (by unfold wE; rw [hk]; rfl) rfl hM hfr hlo hst rfl kk
theorem cv_X8_117 {k : Nat} {x0 : Int32} {x1 : Int32} {f1 l1 : Nat} {V1 : Wd} (F : Fx E G A RX8 cc nL ret fr lo kc ks) (hd : decode cc pc = .ok (.invokevirtual 117, 3)) (hk : kd k = 3) (hM : Ct (enL E) G yX3_add cX3_add 3 none f1 l1 [.ref (AD G k), .int x0, .int x1] V none V1) (hfr : f1 + 1 ≤ fr) (hlo : 8 + (3 + 11) + l1 ≤ lo) (hst : (st.map fun v => v.category).sum ≤ 8) (kk : Go E G A kc ks Q nL V1 (pc + 3) lv (st)) : Go E G A kc ks Q nL V pc lv (.int x1 :: .int x0 :: .ref (AD G k) :: st) :=
  go_callV (y := yX3_add) (As := [.int x0, .int x1]) (ci := 3) (C := RX3) (T := TX3) (N := 2) F hd ml_X8_117 cw_X3_add im_X3_add se_X3_add in_X3 ⟨by decide +kernel, by decide +kernel, (by decide +kernel : (parseMethodDescriptor yX3_add.desc).map (fun d => d.parameters.length) = some 2)⟩ (kd_lt hk (by decide)) (by unfold wE; rw [hk]; rfl) rfl hM hfr hlo hst rfl kk
theorem cv_X8_121 {k : Nat} {x0 : Int32} {f1 l1 : Nat} {V1 : Wd} {r : Int32} (F : Fx E G A RX8 cc nL ret fr lo kc ks) (hd : decode cc pc = .ok (.invokevirtual 121, 3)) (hk : kd k = 3) (hM : Ct (enL E) G yX3_removeLowest cX3_removeLowest 3 (some .int) f1 l1 [.ref (AD G k), .int x0] V (some (.int r)) V1) (hfr : f1 + 1 ≤ fr) (hlo : 8 + (3 + 11) + l1 ≤ lo) (hst : (st.map fun v => v.category).sum ≤ 8) (kk : Go E G A kc ks Q nL V1 (pc + 3) lv (.int r :: st)) : Go E G A kc ks Q nL V pc lv (.int x0 :: .ref (AD G k) :: st) :=
  go_callV (y := yX3_removeLowest) (As := [.int x0]) (ci := 3) (C := RX3) (T := TX3) (N := 2) F hd ml_X8_121 cw_X3_removeLowest im_X3_removeLowest se_X3_removeLowest in_X3 ⟨by decide +kernel, by decide +kernel, (by decide +kernel : (parseMethodDescriptor yX3_removeLowest.desc).map (fun d => d.parameters.length) = some 1)⟩ (kd_lt hk (by decide)) (by unfold wE; rw [hk]; rfl) rfl hM hfr hlo hst rfl kk
theorem cv_X8_124 {k : Nat} {x0 : Int32} {x1 : Int32} {f1 l1 : Nat} {V1 : Wd} (F : Fx E G A RX8 cc nL ret fr lo kc ks) (hd : decode cc pc = .ok (.invokevirtual 124, 3)) (hk : kd k = 3) (hM : Ct (enL E) G yX3_swap cX3_swap 5 none f1 l1 [.ref (AD G k), .int x0, .int x1] V none V1) (hfr : f1 + 1 ≤ fr) (hlo : 8 + (5 + 11) + l1 ≤ lo) (hst : (st.map fun v => v.category).sum ≤ 8) (kk : Go E G A kc ks Q nL V1 (pc + 3) lv (st)) : Go E G A kc ks Q nL V pc lv (.int x1 :: .int x0 :: .ref (AD G k) :: st) :=
  go_callV (y := yX3_swap) (As := [.int x0, .int x1]) (ci := 3) (C := RX3) (T := TX3) (N := 2) F hd ml_X8_124 cw_X3_swap im_X3_swap se_X3_swap in_X3 ⟨by decide +kernel, by decide +kernel, (by decide +kernel : (parseMethodDescriptor yX3_swap.desc).map (fun d => d.parameters.length) = some 2)⟩ (kd_lt hk (by decide)) (by unfold wE; rw [hk]; rfl) rfl hM hfr hlo hst rfl kk
theorem cv_X8_133 {k : Nat} {x0 : Int32} {f1 l1 : Nat} {V1 : Wd} {r : Nat} (F : Fx E G A RX8 cc nL ret fr lo kc ks) (hd : decode cc pc = .ok (.invokevirtual 133, 3)) (hk : kd k = 0) (hM : Ct (enL E) G yX8_read cX8_read 3 (some (.object "MastFlags$Reading")) f1 l1 [.ref (AD G k), .int x0] V (some (.ref (AD G r))) V1) (hfr : f1 + 1 ≤ fr) (hlo : 8 + (3 + 11) + l1 ≤ lo) (hst : (st.map fun v => v.category).sum ≤ 8) (kk : Go E G A kc ks Q nL V1 (pc + 3) lv (.ref (AD G r) :: st)) : Go E G A kc ks Q nL V pc lv (.int x0 :: .ref (AD G k) :: st) :=
  go_callV (y := yX8_read) (As := [.int x0]) (ci := 8) (C := RX8) (T := TX8) (N := 7) F hd ml_X8_133 cw_X8_read im_X8_read se_X8_read in_X8 ⟨by decide +kernel, by decide +kernel, (by decide +kernel : (parseMethodDescriptor yX8_read.desc).map (fun d => d.parameters.length) = some 1)⟩ (kd_lt hk (by decide)) (by unfold wE; rw [hk]; rfl) rfl hM hfr hlo hst rfl kk
theorem cv_X8_137 {k : Nat} {f1 l1 : Nat} {V1 : Wd} {r : Int32} (F : Fx E G A RX8 cc nL ret fr lo kc ks) (hd : decode cc pc = .ok (.invokevirtual 137, 3)) (hk : kd k = 8) (hM : Ct (enL E) G yX5_size cX5_size 1 (some .int) f1 l1 [.ref (AD G k)] V (some (.int r)) V1) (hfr : f1 + 1 ≤ fr) (hlo : 8 + (1 + 11) + l1 ≤ lo) (hst : (st.map fun v => v.category).sum ≤ 8) (kk : Go E G A kc ks Q nL V1 (pc + 3) lv (.int r :: st)) : Go E G A kc ks Q nL V pc lv (.ref (AD G k) :: st) :=
  go_callV (y := yX5_size) (As := []) (ci := 5) (C := RX5) (T := TX5) (N := 4) F hd ml_X8_137 cw_X5_size im_X5_size se_X5_size in_X5 ⟨by decide +kernel, by decide +kernel, (by decide +kernel : (parseMethodDescriptor yX5_size.desc).map (fun d => d.parameters.length) = some 0)⟩ (kd_lt hk (by decide)) (by unfold wE; rw [hk]; rfl) rfl hM hfr hlo hst rfl kk
theorem cv_X8_148 {k : Nat} {k0 : Nat} {x1 : Int32} {f1 l1 : Nat} {V1 : Wd} (F : Fx E G A RX8 cc nL ret fr lo kc ks) (hd : decode cc pc = .ok (.invokevirtual 148, 3)) (hk : kd k = 5) (hM : Ct (enL E) G yX4_add cX4_add 4 none f1 l1 [.ref (AD G k), .ref (AD G k0), .int x1] V none V1) (hfr : f1 + 1 ≤ fr) (hlo : 8 + (4 + 11) + l1 ≤ lo) (hst : (st.map fun v => v.category).sum ≤ 8) (kk : Go E G A kc ks Q nL V1 (pc + 3) lv (st)) : Go E G A kc ks Q nL V pc lv (.int x1 :: .ref (AD G k0) :: .ref (AD G k) :: st) :=
  go_callV (y := yX4_add) (As := [.ref (AD G k0), .int x1]) (ci := 4) (C := RX4) (T := TX4) (N := 4) F hd ml_X8_148 cw_X4_add im_X4_add se_X4_add in_X4 ⟨by decide +kernel, by decide +kernel, (by decide +kernel : (parseMethodDescriptor yX4_add.desc).map (fun d => d.parameters.length) = some 2)⟩ (kd_lt hk (by decide)) (by unfold wE; rw [hk]; rfl) rfl hM hfr hlo hst rfl kk
theorem cv_X8_153 {k : Nat} {f1 l1 : Nat} {V1 : Wd} (F : Fx E G A RX8 cc nL ret fr lo kc ks) (hd : decode cc pc = .ok (.invokevirtual 153, 3)) (hk : kd k = 3) (hM : Ct (enL E) G yX3_clear cX3_clear 2 none f1 l1 [.ref (AD G k)] V none V1) (hfr : f1 + 1 ≤ fr) (hlo : 8 + (2 + 11) + l1 ≤ lo) (hst : (st.map fun v => v.category).sum ≤ 8) (kk : Go E G A kc ks Q nL V1 (pc + 3) lv (st)) : Go E G A kc ks Q nL V pc lv (.ref (AD G k) :: st) :=
  go_callV (y := yX3_clear) (As := []) (ci := 3) (C := RX3) (T := TX3) (N := 2) F hd ml_X8_153 cw_X3_clear im_X3_clear se_X3_clear in_X3 ⟨by decide +kernel, by decide +kernel, (by decide +kernel : (parseMethodDescriptor yX3_clear.desc).map (fun d => d.parameters.length) = some 0)⟩ (kd_lt hk (by decide)) (by unfold wE; rw [hk]; rfl) rfl hM hfr hlo hst rfl kk
theorem cv_X8_156 {k : Nat} {x0 : Int32} {x1 : Int32} {f1 l1 : Nat} {V1 : Wd} {r : Int32} (F : Fx E G A RX8 cc nL ret fr lo kc ks) (hd : decode cc pc = .ok (.invokevirtual 156, 3)) (hk : kd k = 3) (hM : Ct (enL E) G yX3_has cX3_has 3 (some .boolean) f1 l1 [.ref (AD G k), .int x0, .int x1] V (some (.int r)) V1) (hfr : f1 + 1 ≤ fr) (hlo : 8 + (3 + 11) + l1 ≤ lo) (hst : (st.map fun v => v.category).sum ≤ 8) (kk : Go E G A kc ks Q nL V1 (pc + 3) lv (.int r :: st)) : Go E G A kc ks Q nL V pc lv (.int x1 :: .int x0 :: .ref (AD G k) :: st) :=
  go_callV (y := yX3_has) (As := [.int x0, .int x1]) (ci := 3) (C := RX3) (T := TX3) (N := 2) F hd ml_X8_156 cw_X3_has im_X3_has se_X3_has in_X3 ⟨by decide +kernel, by decide +kernel, (by decide +kernel : (parseMethodDescriptor yX3_has.desc).map (fun d => d.parameters.length) = some 2)⟩ (kd_lt hk (by decide)) (by unfold wE; rw [hk]; rfl) rfl hM hfr hlo hst rfl kk
theorem cv_X8_159 {k : Nat} {x0 : Int32} {x1 : Int32} {f1 l1 : Nat} {V1 : Wd} {r : Int32} (F : Fx E G A RX8 cc nL ret fr lo kc ks) (hd : decode cc pc = .ok (.invokevirtual 159, 3)) (hk : kd k = 3) (hM : Ct (enL E) G yX3_signAt cX3_signAt 3 (some .int) f1 l1 [.ref (AD G k), .int x0, .int x1] V (some (.int r)) V1) (hfr : f1 + 1 ≤ fr) (hlo : 8 + (3 + 11) + l1 ≤ lo) (hst : (st.map fun v => v.category).sum ≤ 8) (kk : Go E G A kc ks Q nL V1 (pc + 3) lv (.int r :: st)) : Go E G A kc ks Q nL V pc lv (.int x1 :: .int x0 :: .ref (AD G k) :: st) :=
  go_callV (y := yX3_signAt) (As := [.int x0, .int x1]) (ci := 3) (C := RX3) (T := TX3) (N := 2) F hd ml_X8_159 cw_X3_signAt im_X3_signAt se_X3_signAt in_X3 ⟨by decide +kernel, by decide +kernel, (by decide +kernel : (parseMethodDescriptor yX3_signAt.desc).map (fun d => d.parameters.length) = some 2)⟩ (kd_lt hk (by decide)) (by unfold wE; rw [hk]; rfl) rfl hM hfr hlo hst rfl kk
theorem cv_X8_162 {k : Nat} {x0 : Int32} {x1 : Int32} {f1 l1 : Nat} {V1 : Wd} {r : Int32} (F : Fx E G A RX8 cc nL ret fr lo kc ks) (hd : decode cc pc = .ok (.invokevirtual 162, 3)) (hk : kd k = 3) (hM : Ct (enL E) G yX3_flagAt cX3_flagAt 5 (some .int) f1 l1 [.ref (AD G k), .int x0, .int x1] V (some (.int r)) V1) (hfr : f1 + 1 ≤ fr) (hlo : 8 + (5 + 11) + l1 ≤ lo) (hst : (st.map fun v => v.category).sum ≤ 8) (kk : Go E G A kc ks Q nL V1 (pc + 3) lv (.int r :: st)) : Go E G A kc ks Q nL V pc lv (.int x1 :: .int x0 :: .ref (AD G k) :: st) :=
  go_callV (y := yX3_flagAt) (As := [.int x0, .int x1]) (ci := 3) (C := RX3) (T := TX3) (N := 2) F hd ml_X8_162 cw_X3_flagAt im_X3_flagAt se_X3_flagAt in_X3 ⟨by decide +kernel, by decide +kernel, (by decide +kernel : (parseMethodDescriptor yX3_flagAt.desc).map (fun d => d.parameters.length) = some 2)⟩ (kd_lt hk (by decide)) (by unfold wE; rw [hk]; rfl) rfl hM hfr hlo hst rfl kk
theorem cv_X8_165 {x0 : Int32} {f1 l1 : Nat} {V1 : Wd} {r : Int32} (F : Fx E G A RX8 cc nL ret fr lo kc ks) (hd : decode cc pc = .ok (.invokestatic 165, 3)) (hM : Ct (enL E) G yX8_isFlagsNumber cX8_isFlagsNumber 3 (some .boolean) f1 l1 [.int x0] V (some (.int r)) V1) (hfr : f1 + 1 ≤ fr) (hlo : 8 + (3 + 11) + l1 ≤ lo) (hst : (st.map fun v => v.category).sum ≤ 8) (kk : Go E G A kc ks Q nL V1 (pc + 3) lv (.int r :: st)) : Go E G A kc ks Q nL V pc lv (.int x0 :: st) :=
  go_callS (y := yX8_isFlagsNumber) (As := [.int x0]) F hd ml_X8_165 cw_X8_isFlagsNumber sm_X8_isFlagsNumber in_X8 ⟨by decide +kernel, by decide +kernel, (by decide +kernel : (parseMethodDescriptor yX8_isFlagsNumber.desc).map (fun d => d.parameters.length) = some 1)⟩ hM hfr hlo hst rfl kk
theorem cv_X8_172 {k : Nat} {f1 l1 : Nat} {V1 : Wd} {r : Int32} (F : Fx E G A RX8 cc nL ret fr lo kc ks) (hd : decode cc pc = .ok (.invokevirtual 172, 3)) (hk : kd k = 4) (hM : Ct (enL E) G yX0_size cX0_size 1 (some .int) f1 l1 [.ref (AD G k)] V (some (.int r)) V1) (hfr : f1 + 1 ≤ fr) (hlo : 8 + (1 + 11) + l1 ≤ lo) (hst : (st.map fun v => v.category).sum ≤ 8) (kk : Go E G A kc ks Q nL V1 (pc + 3) lv (.int r :: st)) : Go E G A kc ks Q nL V pc lv (.ref (AD G k) :: st) :=
  go_callV (y := yX0_size) (As := []) (ci := 0) (C := RX0) (T := TX0) (N := 3) F hd ml_X8_172 cw_X0_size im_X0_size se_X0_size in_X0 ⟨by decide +kernel, by decide +kernel, (by decide +kernel : (parseMethodDescriptor yX0_size.desc).map (fun d => d.parameters.length) = some 0)⟩ (kd_lt hk (by decide)) (by unfold wE; rw [hk]; rfl) rfl hM hfr hlo hst rfl kk
theorem cv_X8_175 {k : Nat} {x0 : Int32} {x1 : Int32} {f1 l1 : Nat} {V1 : Wd} (F : Fx E G A RX8 cc nL ret fr lo kc ks) (hd : decode cc pc = .ok (.invokevirtual 175, 3)) (hk : kd k = 4) (hM : Ct (enL E) G yX0_add cX0_add 3 none f1 l1 [.ref (AD G k), .int x0, .int x1] V none V1) (hfr : f1 + 1 ≤ fr) (hlo : 8 + (3 + 11) + l1 ≤ lo) (hst : (st.map fun v => v.category).sum ≤ 8) (kk : Go E G A kc ks Q nL V1 (pc + 3) lv (st)) : Go E G A kc ks Q nL V pc lv (.int x1 :: .int x0 :: .ref (AD G k) :: st) :=
  go_callV (y := yX0_add) (As := [.int x0, .int x1]) (ci := 0) (C := RX0) (T := TX0) (N := 3) F hd ml_X8_175 cw_X0_add im_X0_add se_X0_add in_X0 ⟨by decide +kernel, by decide +kernel, (by decide +kernel : (parseMethodDescriptor yX0_add.desc).map (fun d => d.parameters.length) = some 2)⟩ (kd_lt hk (by decide)) (by unfold wE; rw [hk]; rfl) rfl hM hfr hlo hst rfl kk
theorem cv_X8_176 {k : Nat} {x0 : Int32} {f1 l1 : Nat} {V1 : Wd} {r : Int32} (F : Fx E G A RX8 cc nL ret fr lo kc ks) (hd : decode cc pc = .ok (.invokevirtual 176, 3)) (hk : kd k = 4) (hM : Ct (enL E) G yX0_remove cX0_remove 4 (some .int) f1 l1 [.ref (AD G k), .int x0] V (some (.int r)) V1) (hfr : f1 + 1 ≤ fr) (hlo : 8 + (4 + 11) + l1 ≤ lo) (hst : (st.map fun v => v.category).sum ≤ 8) (kk : Go E G A kc ks Q nL V1 (pc + 3) lv (.int r :: st)) : Go E G A kc ks Q nL V pc lv (.int x0 :: .ref (AD G k) :: st) :=
  go_callV (y := yX0_remove) (As := [.int x0]) (ci := 0) (C := RX0) (T := TX0) (N := 3) F hd ml_X8_176 cw_X0_remove im_X0_remove se_X0_remove in_X0 ⟨by decide +kernel, by decide +kernel, (by decide +kernel : (parseMethodDescriptor yX0_remove.desc).map (fun d => d.parameters.length) = some 1)⟩ (kd_lt hk (by decide)) (by unfold wE; rw [hk]; rfl) rfl hM hfr hlo hst rfl kk
theorem cv_X8_179 {k : Nat} {x0 : Int32} {f1 l1 : Nat} {V1 : Wd} {r : Int32} (F : Fx E G A RX8 cc nL ret fr lo kc ks) (hd : decode cc pc = .ok (.invokevirtual 179, 3)) (hk : kd k = 4) (hM : Ct (enL E) G yX0_flagsAt cX0_flagsAt 2 (some .int) f1 l1 [.ref (AD G k), .int x0] V (some (.int r)) V1) (hfr : f1 + 1 ≤ fr) (hlo : 8 + (2 + 11) + l1 ≤ lo) (hst : (st.map fun v => v.category).sum ≤ 8) (kk : Go E G A kc ks Q nL V1 (pc + 3) lv (.int r :: st)) : Go E G A kc ks Q nL V pc lv (.int x0 :: .ref (AD G k) :: st) :=
  go_callV (y := yX0_flagsAt) (As := [.int x0]) (ci := 0) (C := RX0) (T := TX0) (N := 3) F hd ml_X8_179 cw_X0_flagsAt im_X0_flagsAt se_X0_flagsAt in_X0 ⟨by decide +kernel, by decide +kernel, (by decide +kernel : (parseMethodDescriptor yX0_flagsAt.desc).map (fun d => d.parameters.length) = some 1)⟩ (kd_lt hk (by decide)) (by unfold wE; rw [hk]; rfl) rfl hM hfr hlo hst rfl kk
theorem cv_X8_182 {k : Nat} {x0 : Int32} {f1 l1 : Nat} {V1 : Wd} {r : Int32} (F : Fx E G A RX8 cc nL ret fr lo kc ks) (hd : decode cc pc = .ok (.invokevirtual 182, 3)) (hk : kd k = 4) (hM : Ct (enL E) G yX0_wordAt cX0_wordAt 2 (some .int) f1 l1 [.ref (AD G k), .int x0] V (some (.int r)) V1) (hfr : f1 + 1 ≤ fr) (hlo : 8 + (2 + 11) + l1 ≤ lo) (hst : (st.map fun v => v.category).sum ≤ 8) (kk : Go E G A kc ks Q nL V1 (pc + 3) lv (.int r :: st)) : Go E G A kc ks Q nL V pc lv (.int x0 :: .ref (AD G k) :: st) :=
  go_callV (y := yX0_wordAt) (As := [.int x0]) (ci := 0) (C := RX0) (T := TX0) (N := 3) F hd ml_X8_182 cw_X0_wordAt im_X0_wordAt se_X0_wordAt in_X0 ⟨by decide +kernel, by decide +kernel, (by decide +kernel : (parseMethodDescriptor yX0_wordAt.desc).map (fun d => d.parameters.length) = some 1)⟩ (kd_lt hk (by decide)) (by unfold wE; rw [hk]; rfl) rfl hM hfr hlo hst rfl kk
theorem cv_X8_185 {x0 : Int32} {x1 : Int32} {f1 l1 : Nat} {V1 : Wd} {r : Int32} (F : Fx E G A RX8 cc nL ret fr lo kc ks) (hd : decode cc pc = .ok (.invokestatic 185, 3)) (hM : Ct (enL E) G yX8_isHoistFirst cX8_isHoistFirst 2 (some .boolean) f1 l1 [.int x0, .int x1] V (some (.int r)) V1) (hfr : f1 + 1 ≤ fr) (hlo : 8 + (2 + 11) + l1 ≤ lo) (hst : (st.map fun v => v.category).sum ≤ 8) (kk : Go E G A kc ks Q nL V1 (pc + 3) lv (.int r :: st)) : Go E G A kc ks Q nL V pc lv (.int x1 :: .int x0 :: st) :=
  go_callS (y := yX8_isHoistFirst) (As := [.int x0, .int x1]) F hd ml_X8_185 cw_X8_isHoistFirst sm_X8_isHoistFirst in_X8 ⟨by decide +kernel, by decide +kernel, (by decide +kernel : (parseMethodDescriptor yX8_isHoistFirst.desc).map (fun d => d.parameters.length) = some 2)⟩ hM hfr hlo hst rfl kk
theorem cv_X8_188 {k : Nat} {x0 : Int32} {x1 : Int32} {x2 : Int32} {f1 l1 : Nat} {V1 : Wd} {r : Int32} (F : Fx E G A RX8 cc nL ret fr lo kc ks) (hd : decode cc pc = .ok (.invokevirtual 188, 3)) (hk : kd k = 2) (hM : Ct (enL E) G yX1_takenFor cX1_takenFor 4 (some .int) f1 l1 [.ref (AD G k), .int x0, .int x1, .int x2] V (some (.int r)) V1) (hfr : f1 + 1 ≤ fr) (hlo : 8 + (4 + 11) + l1 ≤ lo) (hst : (st.map fun v => v.category).sum ≤ 8) (kk : Go E G A kc ks Q nL V1 (pc + 3) lv (.int r :: st)) : Go E G A kc ks Q nL V pc lv (.int x2 :: .int x1 :: .int x0 :: .ref (AD G k) :: st) :=
  go_callV (y := yX1_takenFor) (As := [.int x0, .int x1, .int x2]) (ci := 1) (C := RX1) (T := TX1) (N := 3) F hd ml_X8_188 cw_X1_takenFor im_X1_takenFor se_X1_takenFor in_X1 ⟨by decide +kernel, by decide +kernel, (by decide +kernel : (parseMethodDescriptor yX1_takenFor.desc).map (fun d => d.parameters.length) = some 3)⟩ (kd_lt hk (by decide)) (by unfold wE; rw [hk]; rfl) rfl hM hfr hlo hst rfl kk
theorem cv_X8_192 {k : Nat} {x0 : Int32} {f1 l1 : Nat} {V1 : Wd} {r : Int32} (F : Fx E G A RX8 cc nL ret fr lo kc ks) (hd : decode cc pc = .ok (.invokevirtual 192, 3)) (hk : kd k = 8) (hM : Ct (enL E) G yX5_wordAt cX5_wordAt 2 (some .int) f1 l1 [.ref (AD G k), .int x0] V (some (.int r)) V1) (hfr : f1 + 1 ≤ fr) (hlo : 8 + (2 + 11) + l1 ≤ lo) (hst : (st.map fun v => v.category).sum ≤ 8) (kk : Go E G A kc ks Q nL V1 (pc + 3) lv (.int r :: st)) : Go E G A kc ks Q nL V pc lv (.int x0 :: .ref (AD G k) :: st) :=
  go_callV (y := yX5_wordAt) (As := [.int x0]) (ci := 5) (C := RX5) (T := TX5) (N := 4) F hd ml_X8_192 cw_X5_wordAt im_X5_wordAt se_X5_wordAt in_X5 ⟨by decide +kernel, by decide +kernel, (by decide +kernel : (parseMethodDescriptor yX5_wordAt.desc).map (fun d => d.parameters.length) = some 1)⟩ (kd_lt hk (by decide)) (by unfold wE; rw [hk]; rfl) rfl hM hfr hlo hst rfl kk
theorem cv_X8_193 {k : Nat} {f1 l1 : Nat} {V1 : Wd} {r : Int32} (F : Fx E G A RX8 cc nL ret fr lo kc ks) (hd : decode cc pc = .ok (.invokevirtual 193, 3)) (hk : kd k = 8) (hM : Ct (enL E) G yX5_countKnown cX5_countKnown 3 (some .int) f1 l1 [.ref (AD G k)] V (some (.int r)) V1) (hfr : f1 + 1 ≤ fr) (hlo : 8 + (3 + 11) + l1 ≤ lo) (hst : (st.map fun v => v.category).sum ≤ 8) (kk : Go E G A kc ks Q nL V1 (pc + 3) lv (.int r :: st)) : Go E G A kc ks Q nL V pc lv (.ref (AD G k) :: st) :=
  go_callV (y := yX5_countKnown) (As := []) (ci := 5) (C := RX5) (T := TX5) (N := 4) F hd ml_X8_193 cw_X5_countKnown im_X5_countKnown se_X5_countKnown in_X5 ⟨by decide +kernel, by decide +kernel, (by decide +kernel : (parseMethodDescriptor yX5_countKnown.desc).map (fun d => d.parameters.length) = some 0)⟩ (kd_lt hk (by decide)) (by unfold wE; rw [hk]; rfl) rfl hM hfr hlo hst rfl kk
theorem cv_X8_196 {k : Nat} {k0 : Nat} {f1 l1 : Nat} {V1 : Wd} {r : Int32} (F : Fx E G A RX8 cc nL ret fr lo kc ks) (hd : decode cc pc = .ok (.invokevirtual 196, 3)) (hk : kd k = 8) (hM : Ct (enL E) G yX5_agreesWith cX5_agreesWith 3 (some .boolean) f1 l1 [.ref (AD G k), .ref (AD G k0)] V (some (.int r)) V1) (hfr : f1 + 1 ≤ fr) (hlo : 8 + (3 + 11) + l1 ≤ lo) (hst : (st.map fun v => v.category).sum ≤ 8) (kk : Go E G A kc ks Q nL V1 (pc + 3) lv (.int r :: st)) : Go E G A kc ks Q nL V pc lv (.ref (AD G k0) :: .ref (AD G k) :: st) :=
  go_callV (y := yX5_agreesWith) (As := [.ref (AD G k0)]) (ci := 5) (C := RX5) (T := TX5) (N := 4) F hd ml_X8_196 cw_X5_agreesWith im_X5_agreesWith se_X5_agreesWith in_X5 ⟨by decide +kernel, by decide +kernel, (by decide +kernel : (parseMethodDescriptor yX5_agreesWith.desc).map (fun d => d.parameters.length) = some 1)⟩ (kd_lt hk (by decide)) (by unfold wE; rw [hk]; rfl) rfl hM hfr hlo hst rfl kk
theorem cv_X8_200 {k : Nat} {f1 l1 : Nat} {V1 : Wd} {r : Int32} (F : Fx E G A RX8 cc nL ret fr lo kc ks) (hd : decode cc pc = .ok (.invokevirtual 200, 3)) (hk : kd k = 3) (hM : Ct (enL E) G yX3_countAll cX3_countAll 3 (some .int) f1 l1 [.ref (AD G k)] V (some (.int r)) V1) (hfr : f1 + 1 ≤ fr) (hlo : 8 + (3 + 11) + l1 ≤ lo) (hst : (st.map fun v => v.category).sum ≤ 8) (kk : Go E G A kc ks Q nL V1 (pc + 3) lv (.int r :: st)) : Go E G A kc ks Q nL V pc lv (.ref (AD G k) :: st) :=
  go_callV (y := yX3_countAll) (As := []) (ci := 3) (C := RX3) (T := TX3) (N := 2) F hd ml_X8_200 cw_X3_countAll im_X3_countAll se_X3_countAll in_X3 ⟨by decide +kernel, by decide +kernel, (by decide +kernel : (parseMethodDescriptor yX3_countAll.desc).map (fun d => d.parameters.length) = some 0)⟩ (kd_lt hk (by decide)) (by unfold wE; rw [hk]; rfl) rfl hM hfr hlo hst rfl kk
theorem cv_X8_203 {k : Nat} {f1 l1 : Nat} {V1 : Wd} {r : Int32} (F : Fx E G A RX8 cc nL ret fr lo kc ks) (hd : decode cc pc = .ok (.invokevirtual 203, 3)) (hk : kd k = 8) (hM : Ct (enL E) G yX5_knowsAll cX5_knowsAll 1 (some .boolean) f1 l1 [.ref (AD G k)] V (some (.int r)) V1) (hfr : f1 + 1 ≤ fr) (hlo : 8 + (1 + 11) + l1 ≤ lo) (hst : (st.map fun v => v.category).sum ≤ 8) (kk : Go E G A kc ks Q nL V1 (pc + 3) lv (.int r :: st)) : Go E G A kc ks Q nL V pc lv (.ref (AD G k) :: st) :=
  go_callV (y := yX5_knowsAll) (As := []) (ci := 5) (C := RX5) (T := TX5) (N := 4) F hd ml_X8_203 cw_X5_knowsAll im_X5_knowsAll se_X5_knowsAll in_X5 ⟨by decide +kernel, by decide +kernel, (by decide +kernel : (parseMethodDescriptor yX5_knowsAll.desc).map (fun d => d.parameters.length) = some 0)⟩ (kd_lt hk (by decide)) (by unfold wE; rw [hk]; rfl) rfl hM hfr hlo hst rfl kk
theorem cv_X8_207 {k : Nat} {f1 l1 : Nat} {V1 : Wd} {r : Int32} (F : Fx E G A RX8 cc nL ret fr lo kc ks) (hd : decode cc pc = .ok (.invokevirtual 207, 3)) (hk : kd k = 5) (hM : Ct (enL E) G yX4_size cX4_size 1 (some .int) f1 l1 [.ref (AD G k)] V (some (.int r)) V1) (hfr : f1 + 1 ≤ fr) (hlo : 8 + (1 + 11) + l1 ≤ lo) (hst : (st.map fun v => v.category).sum ≤ 8) (kk : Go E G A kc ks Q nL V1 (pc + 3) lv (.int r :: st)) : Go E G A kc ks Q nL V pc lv (.ref (AD G k) :: st) :=
  go_callV (y := yX4_size) (As := []) (ci := 4) (C := RX4) (T := TX4) (N := 4) F hd ml_X8_207 cw_X4_size im_X4_size se_X4_size in_X4 ⟨by decide +kernel, by decide +kernel, (by decide +kernel : (parseMethodDescriptor yX4_size.desc).map (fun d => d.parameters.length) = some 0)⟩ (kd_lt hk (by decide)) (by unfold wE; rw [hk]; rfl) rfl hM hfr hlo hst rfl kk
theorem cv_X8_208 {k : Nat} {x0 : Int32} {f1 l1 : Nat} {V1 : Wd} {r : Int32} (F : Fx E G A RX8 cc nL ret fr lo kc ks) (hd : decode cc pc = .ok (.invokevirtual 208, 3)) (hk : kd k = 5) (hM : Ct (enL E) G yX4_wordsOf cX4_wordsOf 2 (some .int) f1 l1 [.ref (AD G k), .int x0] V (some (.int r)) V1) (hfr : f1 + 1 ≤ fr) (hlo : 8 + (2 + 11) + l1 ≤ lo) (hst : (st.map fun v => v.category).sum ≤ 8) (kk : Go E G A kc ks Q nL V1 (pc + 3) lv (.int r :: st)) : Go E G A kc ks Q nL V pc lv (.int x0 :: .ref (AD G k) :: st) :=
  go_callV (y := yX4_wordsOf) (As := [.int x0]) (ci := 4) (C := RX4) (T := TX4) (N := 4) F hd ml_X8_208 cw_X4_wordsOf im_X4_wordsOf se_X4_wordsOf in_X4 ⟨by decide +kernel, by decide +kernel, (by decide +kernel : (parseMethodDescriptor yX4_wordsOf.desc).map (fun d => d.parameters.length) = some 1)⟩ (kd_lt hk (by decide)) (by unfold wE; rw [hk]; rfl) rfl hM hfr hlo hst rfl kk
theorem cv_X8_211 {k : Nat} {x0 : Int32} {x1 : Int32} {f1 l1 : Nat} {V1 : Wd} {r : Int32} (F : Fx E G A RX8 cc nL ret fr lo kc ks) (hd : decode cc pc = .ok (.invokevirtual 211, 3)) (hk : kd k = 5) (hM : Ct (enL E) G yX4_wordAt cX4_wordAt 3 (some .int) f1 l1 [.ref (AD G k), .int x0, .int x1] V (some (.int r)) V1) (hfr : f1 + 1 ≤ fr) (hlo : 8 + (3 + 11) + l1 ≤ lo) (hst : (st.map fun v => v.category).sum ≤ 8) (kk : Go E G A kc ks Q nL V1 (pc + 3) lv (.int r :: st)) : Go E G A kc ks Q nL V pc lv (.int x1 :: .int x0 :: .ref (AD G k) :: st) :=
  go_callV (y := yX4_wordAt) (As := [.int x0, .int x1]) (ci := 4) (C := RX4) (T := TX4) (N := 4) F hd ml_X8_211 cw_X4_wordAt im_X4_wordAt se_X4_wordAt in_X4 ⟨by decide +kernel, by decide +kernel, (by decide +kernel : (parseMethodDescriptor yX4_wordAt.desc).map (fun d => d.parameters.length) = some 2)⟩ (kd_lt hk (by decide)) (by unfold wE; rw [hk]; rfl) rfl hM hfr hlo hst rfl kk
theorem cv_X8_213 {k : Nat} {f1 l1 : Nat} {V1 : Wd} {r : Int32} (F : Fx E G A RX8 cc nL ret fr lo kc ks) (hd : decode cc pc = .ok (.invokevirtual 213, 3)) (hk : kd k = 3) (hM : Ct (enL E) G yX3_countNotEmpty cX3_countNotEmpty 3 (some .int) f1 l1 [.ref (AD G k)] V (some (.int r)) V1) (hfr : f1 + 1 ≤ fr) (hlo : 8 + (3 + 11) + l1 ≤ lo) (hst : (st.map fun v => v.category).sum ≤ 8) (kk : Go E G A kc ks Q nL V1 (pc + 3) lv (.int r :: st)) : Go E G A kc ks Q nL V pc lv (.ref (AD G k) :: st) :=
  go_callV (y := yX3_countNotEmpty) (As := []) (ci := 3) (C := RX3) (T := TX3) (N := 2) F hd ml_X8_213 cw_X3_countNotEmpty im_X3_countNotEmpty se_X3_countNotEmpty in_X3 ⟨by decide +kernel, by decide +kernel, (by decide +kernel : (parseMethodDescriptor yX3_countNotEmpty.desc).map (fun d => d.parameters.length) = some 0)⟩ (kd_lt hk (by decide)) (by unfold wE; rw [hk]; rfl) rfl hM hfr hlo hst rfl kk
theorem cv_X8_216 {k : Nat} {f1 l1 : Nat} {V1 : Wd} {r : Int32} (F : Fx E G A RX8 cc nL ret fr lo kc ks) (hd : decode cc pc = .ok (.invokevirtual 216, 3)) (hk : kd k = 5) (hM : Ct (enL E) G yX4_countAll cX4_countAll 1 (some .int) f1 l1 [.ref (AD G k)] V (some (.int r)) V1) (hfr : f1 + 1 ≤ fr) (hlo : 8 + (1 + 11) + l1 ≤ lo) (hst : (st.map fun v => v.category).sum ≤ 8) (kk : Go E G A kc ks Q nL V1 (pc + 3) lv (.int r :: st)) : Go E G A kc ks Q nL V pc lv (.ref (AD G k) :: st) :=
  go_callV (y := yX4_countAll) (As := []) (ci := 4) (C := RX4) (T := TX4) (N := 4) F hd ml_X8_216 cw_X4_countAll im_X4_countAll se_X4_countAll in_X4 ⟨by decide +kernel, by decide +kernel, (by decide +kernel : (parseMethodDescriptor yX4_countAll.desc).map (fun d => d.parameters.length) = some 0)⟩ (kd_lt hk (by decide)) (by unfold wE; rw [hk]; rfl) rfl hM hfr hlo hst rfl kk
theorem cv_X8_217 {k : Nat} {x0 : Int32} {f1 l1 : Nat} {V1 : Wd} {r : Nat} (F : Fx E G A RX8 cc nL ret fr lo kc ks) (hd : decode cc pc = .ok (.invokevirtual 217, 3)) (hk : kd k = 0) (hM : Ct (enL E) G yX8_readingOf cX8_readingOf 2 (some (.object "MastFlags$Reading")) f1 l1 [.ref (AD G k), .int x0] V (some (.ref (AD G r))) V1) (hfr : f1 + 1 ≤ fr) (hlo : 8 + (2 + 11) + l1 ≤ lo) (hst : (st.map fun v => v.category).sum ≤ 8) (kk : Go E G A kc ks Q nL V1 (pc + 3) lv (.ref (AD G r) :: st)) : Go E G A kc ks Q nL V pc lv (.int x0 :: .ref (AD G k) :: st) :=
  go_callV (y := yX8_readingOf) (As := [.int x0]) (ci := 8) (C := RX8) (T := TX8) (N := 7) F hd ml_X8_217 cw_X8_readingOf im_X8_readingOf se_X8_readingOf in_X8 ⟨by decide +kernel, by decide +kernel, (by decide +kernel : (parseMethodDescriptor yX8_readingOf.desc).map (fun d => d.parameters.length) = some 1)⟩ (kd_lt hk (by decide)) (by unfold wE; rw [hk]; rfl) rfl hM hfr hlo hst rfl kk
theorem cv_X8_220 {k : Nat} {k0 : Nat} {x1 : Int32} {x2 : Int32} {f1 l1 : Nat} {V1 : Wd} (F : Fx E G A RX8 cc nL ret fr lo kc ks) (hd : decode cc pc = .ok (.invokevirtual 220, 3)) (hk : kd k = 8) (hM : Ct (enL E) G yX5_look cX5_look 6 none f1 l1 [.ref (AD G k), .ref (AD G k0), .int x1, .int x2] V none V1) (hfr : f1 + 1 ≤ fr) (hlo : 8 + (6 + 11) + l1 ≤ lo) (hst : (st.map fun v => v.category).sum ≤ 8) (kk : Go E G A kc ks Q nL V1 (pc + 3) lv (st)) : Go E G A kc ks Q nL V pc lv (.int x2 :: .int x1 :: .ref (AD G k0) :: .ref (AD G k) :: st) :=
  go_callV (y := yX5_look) (As := [.ref (AD G k0), .int x1, .int x2]) (ci := 5) (C := RX5) (T := TX5) (N := 4) F hd ml_X8_220 cw_X5_look im_X5_look se_X5_look in_X5 ⟨by decide +kernel, by decide +kernel, (by decide +kernel : (parseMethodDescriptor yX5_look.desc).map (fun d => d.parameters.length) = some 3)⟩ (kd_lt hk (by decide)) (by unfold wE; rw [hk]; rfl) rfl hM hfr hlo hst rfl kk
theorem cv_X8_224 {k : Nat} {x0 : Int32} {x1 : Int32} {f1 l1 : Nat} {V1 : Wd} (F : Fx E G A RX8 cc nL ret fr lo kc ks) (hd : decode cc pc = .ok (.invokevirtual 224, 3)) (hk : kd k = 8) (hM : Ct (enL E) G yX5_arrange cX5_arrange 5 none f1 l1 [.ref (AD G k), .int x0, .int x1] V none V1) (hfr : f1 + 1 ≤ fr) (hlo : 8 + (5 + 11) + l1 ≤ lo) (hst : (st.map fun v => v.category).sum ≤ 8) (kk : Go E G A kc ks Q nL V1 (pc + 3) lv (st)) : Go E G A kc ks Q nL V pc lv (.int x1 :: .int x0 :: .ref (AD G k) :: st) :=
  go_callV (y := yX5_arrange) (As := [.int x0, .int x1]) (ci := 5) (C := RX5) (T := TX5) (N := 4) F hd ml_X8_224 cw_X5_arrange im_X5_arrange se_X5_arrange in_X5 ⟨by decide +kernel, by decide +kernel, (by decide +kernel : (parseMethodDescriptor yX5_arrange.desc).map (fun d => d.parameters.length) = some 2)⟩ (kd_lt hk (by decide)) (by unfold wE; rw [hk]; rfl) rfl hM hfr hlo hst rfl kk
theorem cv_X8_227 {x0 : Int32} {f1 l1 : Nat} {V1 : Wd} {r : Int32} (F : Fx E G A RX8 cc nL ret fr lo kc ks) (hd : decode cc pc = .ok (.invokestatic 227, 3)) (hM : Ct (enL E) G yX8_lengthOf cX8_lengthOf 3 (some .int) f1 l1 [.int x0] V (some (.int r)) V1) (hfr : f1 + 1 ≤ fr) (hlo : 8 + (3 + 11) + l1 ≤ lo) (hst : (st.map fun v => v.category).sum ≤ 8) (kk : Go E G A kc ks Q nL V1 (pc + 3) lv (.int r :: st)) : Go E G A kc ks Q nL V pc lv (.int x0 :: st) :=
  go_callS (y := yX8_lengthOf) (As := [.int x0]) F hd ml_X8_227 cw_X8_lengthOf sm_X8_lengthOf in_X8 ⟨by decide +kernel, by decide +kernel, (by decide +kernel : (parseMethodDescriptor yX8_lengthOf.desc).map (fun d => d.parameters.length) = some 1)⟩ hM hfr hlo hst rfl kk
theorem cv_X8_230 {k : Nat} {x0 : Int32} {f1 l1 : Nat} {V1 : Wd} {r : Int32} (F : Fx E G A RX8 cc nL ret fr lo kc ks) (hd : decode cc pc = .ok (.invokevirtual 230, 3)) (hk : kd k = 0) (hM : Ct (enL E) G yX8_isKnownAsItself cX8_isKnownAsItself 6 (some .boolean) f1 l1 [.ref (AD G k), .int x0] V (some (.int r)) V1) (hfr : f1 + 1 ≤ fr) (hlo : 8 + (6 + 11) + l1 ≤ lo) (hst : (st.map fun v => v.category).sum ≤ 8) (kk : Go E G A kc ks Q nL V1 (pc + 3) lv (.int r :: st)) : Go E G A kc ks Q nL V pc lv (.int x0 :: .ref (AD G k) :: st) :=
  go_callV (y := yX8_isKnownAsItself) (As := [.int x0]) (ci := 8) (C := RX8) (T := TX8) (N := 7) F hd ml_X8_230 cw_X8_isKnownAsItself im_X8_isKnownAsItself se_X8_isKnownAsItself in_X8 ⟨by decide +kernel, by decide +kernel, (by decide +kernel : (parseMethodDescriptor yX8_isKnownAsItself.desc).map (fun d => d.parameters.length) = some 1)⟩ (kd_lt hk (by decide)) (by unfold wE; rw [hk]; rfl) rfl hM hfr hlo hst rfl kk
theorem cv_X8_233 {k : Nat} {f1 l1 : Nat} {V1 : Wd} {r : Int32} (F : Fx E G A RX8 cc nL ret fr lo kc ks) (hd : decode cc pc = .ok (.invokevirtual 233, 3)) (hk : kd k = 7) (hM : Ct (enL E) G yX7_size cX7_size 1 (some .int) f1 l1 [.ref (AD G k)] V (some (.int r)) V1) (hfr : f1 + 1 ≤ fr) (hlo : 8 + (1 + 11) + l1 ≤ lo) (hst : (st.map fun v => v.category).sum ≤ 8) (kk : Go E G A kc ks Q nL V1 (pc + 3) lv (.int r :: st)) : Go E G A kc ks Q nL V pc lv (.ref (AD G k) :: st) :=
  go_callV (y := yX7_size) (As := []) (ci := 7) (C := RX7) (T := TX7) (N := 5) F hd ml_X8_233 cw_X7_size im_X7_size se_X7_size in_X7 ⟨by decide +kernel, by decide +kernel, (by decide +kernel : (parseMethodDescriptor yX7_size.desc).map (fun d => d.parameters.length) = some 0)⟩ (kd_lt hk (by decide)) (by unfold wE; rw [hk]; rfl) rfl hM hfr hlo hst rfl kk
theorem cv_X8_234 {k : Nat} {x0 : Int32} {f1 l1 : Nat} {V1 : Wd} (F : Fx E G A RX8 cc nL ret fr lo kc ks) (hd : decode cc pc = .ok (.invokevirtual 234, 3)) (hk : kd k = 7) (hM : Ct (enL E) G yX7_add cX7_add 2 none f1 l1 [.ref (AD G k), .int x0] V none V1) (hfr : f1 + 1 ≤ fr) (hlo : 8 + (2 + 11) + l1 ≤ lo) (hst : (st.map fun v => v.category).sum ≤ 8) (kk : Go E G A kc ks Q nL V1 (pc + 3) lv (st)) : Go E G A kc ks Q nL V pc lv (.int x0 :: .ref (AD G k) :: st) :=
  go_callV (y := yX7_add) (As := [.int x0]) (ci := 7) (C := RX7) (T := TX7) (N := 5) F hd ml_X8_234 cw_X7_add im_X7_add se_X7_add in_X7 ⟨by decide +kernel, by decide +kernel, (by decide +kernel : (parseMethodDescriptor yX7_add.desc).map (fun d => d.parameters.length) = some 1)⟩ (kd_lt hk (by decide)) (by unfold wE; rw [hk]; rfl) rfl hM hfr hlo hst rfl kk
theorem cv_X8_236 {k : Nat} {f1 l1 : Nat} {V1 : Wd} (F : Fx E G A RX8 cc nL ret fr lo kc ks) (hd : decode cc pc = .ok (.invokevirtual 236, 3)) (hk : kd k = 7) (hM : Ct (enL E) G yX7_clear cX7_clear 1 none f1 l1 [.ref (AD G k)] V none V1) (hfr : f1 + 1 ≤ fr) (hlo : 8 + (1 + 11) + l1 ≤ lo) (hst : (st.map fun v => v.category).sum ≤ 8) (kk : Go E G A kc ks Q nL V1 (pc + 3) lv (st)) : Go E G A kc ks Q nL V pc lv (.ref (AD G k) :: st) :=
  go_callV (y := yX7_clear) (As := []) (ci := 7) (C := RX7) (T := TX7) (N := 5) F hd ml_X8_236 cw_X7_clear im_X7_clear se_X7_clear in_X7 ⟨by decide +kernel, by decide +kernel, (by decide +kernel : (parseMethodDescriptor yX7_clear.desc).map (fun d => d.parameters.length) = some 0)⟩ (kd_lt hk (by decide)) (by unfold wE; rw [hk]; rfl) rfl hM hfr hlo hst rfl kk
theorem cv_X8_237 {k : Nat} {f1 l1 : Nat} {V1 : Wd} {r : Int32} (F : Fx E G A RX8 cc nL ret fr lo kc ks) (hd : decode cc pc = .ok (.invokevirtual 237, 3)) (hk : kd k = 7) (hM : Ct (enL E) G yX7_parse cX7_parse 2 (some .int) f1 l1 [.ref (AD G k)] V (some (.int r)) V1) (hfr : f1 + 1 ≤ fr) (hlo : 8 + (2 + 11) + l1 ≤ lo) (hst : (st.map fun v => v.category).sum ≤ 8) (kk : Go E G A kc ks Q nL V1 (pc + 3) lv (.int r :: st)) : Go E G A kc ks Q nL V pc lv (.ref (AD G k) :: st) :=
  go_callV (y := yX7_parse) (As := []) (ci := 7) (C := RX7) (T := TX7) (N := 5) F hd ml_X8_237 cw_X7_parse im_X7_parse se_X7_parse in_X7 ⟨by decide +kernel, by decide +kernel, (by decide +kernel : (parseMethodDescriptor yX7_parse.desc).map (fun d => d.parameters.length) = some 0)⟩ (kd_lt hk (by decide)) (by unfold wE; rw [hk]; rfl) rfl hM hfr hlo hst rfl kk
theorem cv_X8_241 {k : Nat} {k0 : Nat} {f1 l1 : Nat} {V1 : Wd} (F : Fx E G A RX8 cc nL ret fr lo kc ks) (hd : decode cc pc = .ok (.invokevirtual 241, 3)) (hk : kd k = 3) (hM : Ct (enL E) G yX3_copyFrom cX3_copyFrom 2 none f1 l1 [.ref (AD G k), .ref (AD G k0)] V none V1) (hfr : f1 + 1 ≤ fr) (hlo : 8 + (2 + 11) + l1 ≤ lo) (hst : (st.map fun v => v.category).sum ≤ 8) (kk : Go E G A kc ks Q nL V1 (pc + 3) lv (st)) : Go E G A kc ks Q nL V pc lv (.ref (AD G k0) :: .ref (AD G k) :: st) :=
  go_callV (y := yX3_copyFrom) (As := [.ref (AD G k0)]) (ci := 3) (C := RX3) (T := TX3) (N := 2) F hd ml_X8_241 cw_X3_copyFrom im_X3_copyFrom se_X3_copyFrom in_X3 ⟨by decide +kernel, by decide +kernel, (by decide +kernel : (parseMethodDescriptor yX3_copyFrom.desc).map (fun d => d.parameters.length) = some 1)⟩ (kd_lt hk (by decide)) (by unfold wE; rw [hk]; rfl) rfl hM hfr hlo hst rfl kk
theorem cv_X8_245 {k : Nat} {f1 l1 : Nat} {V1 : Wd} {r : Int32} (F : Fx E G A RX8 cc nL ret fr lo kc ks) (hd : decode cc pc = .ok (.invokevirtual 245, 3)) (hk : kd k = 6) (hM : Ct (enL E) G yX2_size cX2_size 1 (some .int) f1 l1 [.ref (AD G k)] V (some (.int r)) V1) (hfr : f1 + 1 ≤ fr) (hlo : 8 + (1 + 11) + l1 ≤ lo) (hst : (st.map fun v => v.category).sum ≤ 8) (kk : Go E G A kc ks Q nL V1 (pc + 3) lv (.int r :: st)) : Go E G A kc ks Q nL V pc lv (.ref (AD G k) :: st) :=
  go_callV (y := yX2_size) (As := []) (ci := 2) (C := RX2) (T := TX2) (N := 3) F hd ml_X8_245 cw_X2_size im_X2_size se_X2_size in_X2 ⟨by decide +kernel, by decide +kernel, (by decide +kernel : (parseMethodDescriptor yX2_size.desc).map (fun d => d.parameters.length) = some 0)⟩ (kd_lt hk (by decide)) (by unfold wE; rw [hk]; rfl) rfl hM hfr hlo hst rfl kk
theorem cv_X8_246 {k : Nat} {k0 : Nat} {f1 l1 : Nat} {V1 : Wd} (F : Fx E G A RX8 cc nL ret fr lo kc ks) (hd : decode cc pc = .ok (.invokevirtual 246, 3)) (hk : kd k = 6) (hM : Ct (enL E) G yX2_takeBack cX2_takeBack 4 none f1 l1 [.ref (AD G k), .ref (AD G k0)] V none V1) (hfr : f1 + 1 ≤ fr) (hlo : 8 + (4 + 11) + l1 ≤ lo) (hst : (st.map fun v => v.category).sum ≤ 8) (kk : Go E G A kc ks Q nL V1 (pc + 3) lv (st)) : Go E G A kc ks Q nL V pc lv (.ref (AD G k0) :: .ref (AD G k) :: st) :=
  go_callV (y := yX2_takeBack) (As := [.ref (AD G k0)]) (ci := 2) (C := RX2) (T := TX2) (N := 3) F hd ml_X8_246 cw_X2_takeBack im_X2_takeBack se_X2_takeBack in_X2 ⟨by decide +kernel, by decide +kernel, (by decide +kernel : (parseMethodDescriptor yX2_takeBack.desc).map (fun d => d.parameters.length) = some 1)⟩ (kd_lt hk (by decide)) (by unfold wE; rw [hk]; rfl) rfl hM hfr hlo hst rfl kk
theorem cv_X8_249 {k : Nat} {k0 : Nat} {f1 l1 : Nat} {V1 : Wd} (F : Fx E G A RX8 cc nL ret fr lo kc ks) (hd : decode cc pc = .ok (.invokevirtual 249, 3)) (hk : kd k = 1) (hM : Ct (enL E) G yX6_copyFrom cX6_copyFrom 2 none f1 l1 [.ref (AD G k), .ref (AD G k0)] V none V1) (hfr : f1 + 1 ≤ fr) (hlo : 8 + (2 + 11) + l1 ≤ lo) (hst : (st.map fun v => v.category).sum ≤ 8) (kk : Go E G A kc ks Q nL V1 (pc + 3) lv (st)) : Go E G A kc ks Q nL V pc lv (.ref (AD G k0) :: .ref (AD G k) :: st) :=
  go_callV (y := yX6_copyFrom) (As := [.ref (AD G k0)]) (ci := 6) (C := RX6) (T := TX6) (N := 9) F hd ml_X8_249 cw_X6_copyFrom im_X6_copyFrom se_X6_copyFrom in_X6 ⟨by decide +kernel, by decide +kernel, (by decide +kernel : (parseMethodDescriptor yX6_copyFrom.desc).map (fun d => d.parameters.length) = some 1)⟩ (kd_lt hk (by decide)) (by unfold wE; rw [hk]; rfl) rfl hM hfr hlo hst rfl kk
theorem cv_X9_26 {x0 : Int32} {x1 : Int32} {x2 : Int32} {f1 l1 : Nat} {V1 : Wd} {r : Int32} (F : Fx E G A RX9 cc nL ret fr lo kc ks) (hd : decode cc pc = .ok (.invokestatic 26, 3)) (hM : Ct (enL E) G yX9_in cX9_in 3 (some .boolean) f1 l1 [.int x0, .int x1, .int x2] V (some (.int r)) V1) (hfr : f1 + 1 ≤ fr) (hlo : 8 + (3 + 11) + l1 ≤ lo) (hst : (st.map fun v => v.category).sum ≤ 8) (kk : Go E G A kc ks Q nL V1 (pc + 3) lv (.int r :: st)) : Go E G A kc ks Q nL V pc lv (.int x2 :: .int x1 :: .int x0 :: st) :=
  go_callS (y := yX9_in) (As := [.int x0, .int x1, .int x2]) F hd ml_X9_26 cw_X9_in sm_X9_in in_X9 ⟨by decide +kernel, by decide +kernel, (by decide +kernel : (parseMethodDescriptor yX9_in.desc).map (fun d => d.parameters.length) = some 3)⟩ hM hfr hlo hst rfl kk
theorem cv_X9_34 {k : Nat} {f1 l1 : Nat} {V1 : Wd} (F : Fx E G A RX9 cc nL ret fr lo kc ks) (hd : decode cc pc = .ok (.invokevirtual 34, 3)) (hk : kd k = 9) (hM : Ct (enL E) G yX9_record cX9_record 2 none f1 l1 [.ref (AD G k)] V none V1) (hfr : f1 + 1 ≤ fr) (hlo : 8 + (2 + 11) + l1 ≤ lo) (hst : (st.map fun v => v.category).sum ≤ 8) (kk : Go E G A kc ks Q nL V1 (pc + 3) lv (st)) : Go E G A kc ks Q nL V pc lv (.ref (AD G k) :: st) :=
  go_callV (y := yX9_record) (As := []) (ci := 9) (C := RX9) (T := TX9) (N := 11) F hd ml_X9_34 cw_X9_record im_X9_record se_X9_record in_X9 ⟨by decide +kernel, by decide +kernel, (by decide +kernel : (parseMethodDescriptor yX9_record.desc).map (fun d => d.parameters.length) = some 0)⟩ (kd_lt hk (by decide)) (by unfold wE; rw [hk]; rfl) rfl hM hfr hlo hst rfl kk
theorem cv_X9_37 {k : Nat} {x0 : Int32} {f1 l1 : Nat} {V1 : Wd} {r : Int32} (F : Fx E G A RX9 cc nL ret fr lo kc ks) (hd : decode cc pc = .ok (.invokevirtual 37, 3)) (hk : kd k = 9) (hM : Ct (enL E) G yX9_many cX9_many 2 (some .int) f1 l1 [.ref (AD G k), .int x0] V (some (.int r)) V1) (hfr : f1 + 1 ≤ fr) (hlo : 8 + (2 + 11) + l1 ≤ lo) (hst : (st.map fun v => v.category).sum ≤ 8) (kk : Go E G A kc ks Q nL V1 (pc + 3) lv (.int r :: st)) : Go E G A kc ks Q nL V pc lv (.int x0 :: .ref (AD G k) :: st) :=
  go_callV (y := yX9_many) (As := [.int x0]) (ci := 9) (C := RX9) (T := TX9) (N := 11) F hd ml_X9_37 cw_X9_many im_X9_many se_X9_many in_X9 ⟨by decide +kernel, by decide +kernel, (by decide +kernel : (parseMethodDescriptor yX9_many.desc).map (fun d => d.parameters.length) = some 1)⟩ (kd_lt hk (by decide)) (by unfold wE; rw [hk]; rfl) rfl hM hfr hlo hst rfl kk
theorem cv_X9_45 {k : Nat} {f1 l1 : Nat} {V1 : Wd} {r : Int32} (F : Fx E G A RX9 cc nL ret fr lo kc ks) (hd : decode cc pc = .ok (.invokevirtual 45, 3)) (hk : kd k = 9) (hM : Ct (enL E) G yX9_allSigns cX9_allSigns 3 (some .int) f1 l1 [.ref (AD G k)] V (some (.int r)) V1) (hfr : f1 + 1 ≤ fr) (hlo : 8 + (3 + 11) + l1 ≤ lo) (hst : (st.map fun v => v.category).sum ≤ 8) (kk : Go E G A kc ks Q nL V1 (pc + 3) lv (.int r :: st)) : Go E G A kc ks Q nL V pc lv (.ref (AD G k) :: st) :=
  go_callV (y := yX9_allSigns) (As := []) (ci := 9) (C := RX9) (T := TX9) (N := 11) F hd ml_X9_45 cw_X9_allSigns im_X9_allSigns se_X9_allSigns in_X9 ⟨by decide +kernel, by decide +kernel, (by decide +kernel : (parseMethodDescriptor yX9_allSigns.desc).map (fun d => d.parameters.length) = some 0)⟩ (kd_lt hk (by decide)) (by unfold wE; rw [hk]; rfl) rfl hM hfr hlo hst rfl kk
theorem cv_X9_49 {k : Nat} {x0 : Int32} {x1 : Int32} {f1 l1 : Nat} {V1 : Wd} {r : Int32} (F : Fx E G A RX9 cc nL ret fr lo kc ks) (hd : decode cc pc = .ok (.invokevirtual 49, 3)) (hk : kd k = 9) (hM : Ct (enL E) G yX9_ofFlag cX9_ofFlag 3 (some .int) f1 l1 [.ref (AD G k), .int x0, .int x1] V (some (.int r)) V1) (hfr : f1 + 1 ≤ fr) (hlo : 8 + (3 + 11) + l1 ≤ lo) (hst : (st.map fun v => v.category).sum ≤ 8) (kk : Go E G A kc ks Q nL V1 (pc + 3) lv (.int r :: st)) : Go E G A kc ks Q nL V pc lv (.int x1 :: .int x0 :: .ref (AD G k) :: st) :=
  go_callV (y := yX9_ofFlag) (As := [.int x0, .int x1]) (ci := 9) (C := RX9) (T := TX9) (N := 11) F hd ml_X9_49 cw_X9_ofFlag im_X9_ofFlag se_X9_ofFlag in_X9 ⟨by decide +kernel, by decide +kernel, (by decide +kernel : (parseMethodDescriptor yX9_ofFlag.desc).map (fun d => d.parameters.length) = some 2)⟩ (kd_lt hk (by decide)) (by unfold wE; rw [hk]; rfl) rfl hM hfr hlo hst rfl kk
theorem cv_X9_53 {x0 : Int32} {f1 l1 : Nat} {V1 : Wd} {r : Int32} (F : Fx E G A RX9 cc nL ret fr lo kc ks) (hd : decode cc pc = .ok (.invokestatic 53, 3)) (hM : Ct (enL E) G yX9_isFlag cX9_isFlag 1 (some .boolean) f1 l1 [.int x0] V (some (.int r)) V1) (hfr : f1 + 1 ≤ fr) (hlo : 8 + (1 + 11) + l1 ≤ lo) (hst : (st.map fun v => v.category).sum ≤ 8) (kk : Go E G A kc ks Q nL V1 (pc + 3) lv (.int r :: st)) : Go E G A kc ks Q nL V pc lv (.int x0 :: st) :=
  go_callS (y := yX9_isFlag) (As := [.int x0]) F hd ml_X9_53 cw_X9_isFlag sm_X9_isFlag in_X9 ⟨by decide +kernel, by decide +kernel, (by decide +kernel : (parseMethodDescriptor yX9_isFlag.desc).map (fun d => d.parameters.length) = some 1)⟩ hM hfr hlo hst rfl kk
theorem cv_X9_57 {k : Nat} {f1 l1 : Nat} {V1 : Wd} (F : Fx E G A RX9 cc nL ret fr lo kc ks) (hd : decode cc pc = .ok (.invokevirtual 57, 3)) (hk : kd k = 9) (hM : Ct (enL E) G yX9_recordAndDown cX9_recordAndDown 1 none f1 l1 [.ref (AD G k)] V none V1) (hfr : f1 + 1 ≤ fr) (hlo : 8 + (1 + 11) + l1 ≤ lo) (hst : (st.map fun v => v.category).sum ≤ 8) (kk : Go E G A kc ks Q nL V1 (pc + 3) lv (st)) : Go E G A kc ks Q nL V pc lv (.ref (AD G k) :: st) :=
  go_callV (y := yX9_recordAndDown) (As := []) (ci := 9) (C := RX9) (T := TX9) (N := 11) F hd ml_X9_57 cw_X9_recordAndDown im_X9_recordAndDown se_X9_recordAndDown in_X9 ⟨by decide +kernel, by decide +kernel, (by decide +kernel : (parseMethodDescriptor yX9_recordAndDown.desc).map (fun d => d.parameters.length) = some 0)⟩ (kd_lt hk (by decide)) (by unfold wE; rw [hk]; rfl) rfl hM hfr hlo hst rfl kk
theorem cv_X9_60 {k : Nat} {x0 : Int32} {x1 : Int32} {f1 l1 : Nat} {V1 : Wd} {r : Int32} (F : Fx E G A RX9 cc nL ret fr lo kc ks) (hd : decode cc pc = .ok (.invokevirtual 60, 3)) (hk : kd k = 9) (hM : Ct (enL E) G yX9_signOn cX9_signOn 3 (some .int) f1 l1 [.ref (AD G k), .int x0, .int x1] V (some (.int r)) V1) (hfr : f1 + 1 ≤ fr) (hlo : 8 + (3 + 11) + l1 ≤ lo) (hst : (st.map fun v => v.category).sum ≤ 8) (kk : Go E G A kc ks Q nL V1 (pc + 3) lv (.int r :: st)) : Go E G A kc ks Q nL V pc lv (.int x1 :: .int x0 :: .ref (AD G k) :: st) :=
  go_callV (y := yX9_signOn) (As := [.int x0, .int x1]) (ci := 9) (C := RX9) (T := TX9) (N := 11) F hd ml_X9_60 cw_X9_signOn im_X9_signOn se_X9_signOn in_X9 ⟨by decide +kernel, by decide +kernel, (by decide +kernel : (parseMethodDescriptor yX9_signOn.desc).map (fun d => d.parameters.length) = some 2)⟩ (kd_lt hk (by decide)) (by unfold wE; rw [hk]; rfl) rfl hM hfr hlo hst rfl kk
theorem cv_X9_63 {k : Nat} {x0 : Int32} {f1 l1 : Nat} {V1 : Wd} {r : Int32} (F : Fx E G A RX9 cc nL ret fr lo kc ks) (hd : decode cc pc = .ok (.invokevirtual 63, 3)) (hk : kd k = 9) (hM : Ct (enL E) G yX9_used cX9_used 5 (some .int) f1 l1 [.ref (AD G k), .int x0] V (some (.int r)) V1) (hfr : f1 + 1 ≤ fr) (hlo : 8 + (5 + 11) + l1 ≤ lo) (hst : (st.map fun v => v.category).sum ≤ 8) (kk : Go E G A kc ks Q nL V1 (pc + 3) lv (.int r :: st)) : Go E G A kc ks Q nL V pc lv (.int x0 :: .ref (AD G k) :: st) :=
  go_callV (y := yX9_used) (As := [.int x0]) (ci := 9) (C := RX9) (T := TX9) (N := 11) F hd ml_X9_63 cw_X9_used im_X9_used se_X9_used in_X9 ⟨by decide +kernel, by decide +kernel, (by decide +kernel : (parseMethodDescriptor yX9_used.desc).map (fun d => d.parameters.length) = some 1)⟩ (kd_lt hk (by decide)) (by unfold wE; rw [hk]; rfl) rfl hM hfr hlo hst rfl kk
theorem cv_X9_66 {k : Nat} {f1 l1 : Nat} {V1 : Wd} {r : Int32} (F : Fx E G A RX9 cc nL ret fr lo kc ks) (hd : decode cc pc = .ok (.invokevirtual 66, 3)) (hk : kd k = 9) (hM : Ct (enL E) G yX9_mostUsed cX9_mostUsed 3 (some .int) f1 l1 [.ref (AD G k)] V (some (.int r)) V1) (hfr : f1 + 1 ≤ fr) (hlo : 8 + (3 + 11) + l1 ≤ lo) (hst : (st.map fun v => v.category).sum ≤ 8) (kk : Go E G A kc ks Q nL V1 (pc + 3) lv (.int r :: st)) : Go E G A kc ks Q nL V pc lv (.ref (AD G k) :: st) :=
  go_callV (y := yX9_mostUsed) (As := []) (ci := 9) (C := RX9) (T := TX9) (N := 11) F hd ml_X9_66 cw_X9_mostUsed im_X9_mostUsed se_X9_mostUsed in_X9 ⟨by decide +kernel, by decide +kernel, (by decide +kernel : (parseMethodDescriptor yX9_mostUsed.desc).map (fun d => d.parameters.length) = some 0)⟩ (kd_lt hk (by decide)) (by unfold wE; rw [hk]; rfl) rfl hM hfr hlo hst rfl kk
theorem cv_X9_69 {x0 : Int32} {f1 l1 : Nat} {V1 : Wd} {r : Int32} (F : Fx E G A RX9 cc nL ret fr lo kc ks) (hd : decode cc pc = .ok (.invokestatic 69, 3)) (hM : Ct (enL E) G yX9_isSide cX9_isSide 1 (some .boolean) f1 l1 [.int x0] V (some (.int r)) V1) (hfr : f1 + 1 ≤ fr) (hlo : 8 + (1 + 11) + l1 ≤ lo) (hst : (st.map fun v => v.category).sum ≤ 8) (kk : Go E G A kc ks Q nL V1 (pc + 3) lv (.int r :: st)) : Go E G A kc ks Q nL V pc lv (.int x0 :: st) :=
  go_callS (y := yX9_isSide) (As := [.int x0]) F hd ml_X9_69 cw_X9_isSide sm_X9_isSide in_X9 ⟨by decide +kernel, by decide +kernel, (by decide +kernel : (parseMethodDescriptor yX9_isSide.desc).map (fun d => d.parameters.length) = some 1)⟩ hM hfr hlo hst rfl kk
theorem cv_X9_72 {k : Nat} {x0 : Int32} {x1 : Int32} {f1 l1 : Nat} {V1 : Wd} {r : Int32} (F : Fx E G A RX9 cc nL ret fr lo kc ks) (hd : decode cc pc = .ok (.invokevirtual 72, 3)) (hk : kd k = 9) (hM : Ct (enL E) G yX9_flagWith cX9_flagWith 5 (some .int) f1 l1 [.ref (AD G k), .int x0, .int x1] V (some (.int r)) V1) (hfr : f1 + 1 ≤ fr) (hlo : 8 + (5 + 11) + l1 ≤ lo) (hst : (st.map fun v => v.category).sum ≤ 8) (kk : Go E G A kc ks Q nL V1 (pc + 3) lv (.int r :: st)) : Go E G A kc ks Q nL V pc lv (.int x1 :: .int x0 :: .ref (AD G k) :: st) :=
  go_callV (y := yX9_flagWith) (As := [.int x0, .int x1]) (ci := 9) (C := RX9) (T := TX9) (N := 11) F hd ml_X9_72 cw_X9_flagWith im_X9_flagWith se_X9_flagWith in_X9 ⟨by decide +kernel, by decide +kernel, (by decide +kernel : (parseMethodDescriptor yX9_flagWith.desc).map (fun d => d.parameters.length) = some 2)⟩ (kd_lt hk (by decide)) (by unfold wE; rw [hk]; rfl) rfl hM hfr hlo hst rfl kk
theorem cv_X9_75 {x0 : Int32} {f1 l1 : Nat} {V1 : Wd} {r : Int32} (F : Fx E G A RX9 cc nL ret fr lo kc ks) (hd : decode cc pc = .ok (.invokestatic 75, 3)) (hM : Ct (enL E) G yX9_isHalyard cX9_isHalyard 1 (some .boolean) f1 l1 [.int x0] V (some (.int r)) V1) (hfr : f1 + 1 ≤ fr) (hlo : 8 + (1 + 11) + l1 ≤ lo) (hst : (st.map fun v => v.category).sum ≤ 8) (kk : Go E G A kc ks Q nL V1 (pc + 3) lv (.int r :: st)) : Go E G A kc ks Q nL V pc lv (.int x0 :: st) :=
  go_callS (y := yX9_isHalyard) (As := [.int x0]) F hd ml_X9_75 cw_X9_isHalyard sm_X9_isHalyard in_X9 ⟨by decide +kernel, by decide +kernel, (by decide +kernel : (parseMethodDescriptor yX9_isHalyard.desc).map (fun d => d.parameters.length) = some 1)⟩ hM hfr hlo hst rfl kk
theorem cv_X9_78 {x0 : Int32} {f1 l1 : Nat} {V1 : Wd} {r : Int32} (F : Fx E G A RX9 cc nL ret fr lo kc ks) (hd : decode cc pc = .ok (.invokestatic 78, 3)) (hM : Ct (enL E) G yX9_isSign cX9_isSign 1 (some .boolean) f1 l1 [.int x0] V (some (.int r)) V1) (hfr : f1 + 1 ≤ fr) (hlo : 8 + (1 + 11) + l1 ≤ lo) (hst : (st.map fun v => v.category).sum ≤ 8) (kk : Go E G A kc ks Q nL V1 (pc + 3) lv (.int r :: st)) : Go E G A kc ks Q nL V pc lv (.int x0 :: st) :=
  go_callS (y := yX9_isSign) (As := [.int x0]) F hd ml_X9_78 cw_X9_isSign sm_X9_isSign in_X9 ⟨by decide +kernel, by decide +kernel, (by decide +kernel : (parseMethodDescriptor yX9_isSign.desc).map (fun d => d.parameters.length) = some 1)⟩ hM hfr hlo hst rfl kk
theorem cv_X9_81 {k : Nat} {x0 : Int32} {x1 : Int32} {f1 l1 : Nat} {V1 : Wd} (F : Fx E G A RX9 cc nL ret fr lo kc ks) (hd : decode cc pc = .ok (.invokevirtual 81, 3)) (hk : kd k = 9) (hM : Ct (enL E) G yX9_putOn cX9_putOn 3 none f1 l1 [.ref (AD G k), .int x0, .int x1] V none V1) (hfr : f1 + 1 ≤ fr) (hlo : 8 + (3 + 11) + l1 ≤ lo) (hst : (st.map fun v => v.category).sum ≤ 8) (kk : Go E G A kc ks Q nL V1 (pc + 3) lv (st)) : Go E G A kc ks Q nL V pc lv (.int x1 :: .int x0 :: .ref (AD G k) :: st) :=
  go_callV (y := yX9_putOn) (As := [.int x0, .int x1]) (ci := 9) (C := RX9) (T := TX9) (N := 11) F hd ml_X9_81 cw_X9_putOn im_X9_putOn se_X9_putOn in_X9 ⟨by decide +kernel, by decide +kernel, (by decide +kernel : (parseMethodDescriptor yX9_putOn.desc).map (fun d => d.parameters.length) = some 2)⟩ (kd_lt hk (by decide)) (by unfold wE; rw [hk]; rfl) rfl hM hfr hlo hst rfl kk
theorem cv_X9_85 {k : Nat} {x0 : Int32} {x1 : Int32} {f1 l1 : Nat} {V1 : Wd} (F : Fx E G A RX9 cc nL ret fr lo kc ks) (hd : decode cc pc = .ok (.invokevirtual 85, 3)) (hk : kd k = 9) (hM : Ct (enL E) G yX9_swaps cX9_swaps 5 none f1 l1 [.ref (AD G k), .int x0, .int x1] V none V1) (hfr : f1 + 1 ≤ fr) (hlo : 8 + (5 + 11) + l1 ≤ lo) (hst : (st.map fun v => v.category).sum ≤ 8) (kk : Go E G A kc ks Q nL V1 (pc + 3) lv (st)) : Go E G A kc ks Q nL V pc lv (.int x1 :: .int x0 :: .ref (AD G k) :: st) :=
  go_callV (y := yX9_swaps) (As := [.int x0, .int x1]) (ci := 9) (C := RX9) (T := TX9) (N := 11) F hd ml_X9_85 cw_X9_swaps im_X9_swaps se_X9_swaps in_X9 ⟨by decide +kernel, by decide +kernel, (by decide +kernel : (parseMethodDescriptor yX9_swaps.desc).map (fun d => d.parameters.length) = some 2)⟩ (kd_lt hk (by decide)) (by unfold wE; rw [hk]; rfl) rfl hM hfr hlo hst rfl kk
theorem cv_X9_88 {k : Nat} {f1 l1 : Nat} {V1 : Wd} {r : Int32} (F : Fx E G A RX9 cc nL ret fr lo kc ks) (hd : decode cc pc = .ok (.invokevirtual 88, 3)) (hk : kd k = 9) (hM : Ct (enL E) G yX9_hoists cX9_hoists 3 (some .int) f1 l1 [.ref (AD G k)] V (some (.int r)) V1) (hfr : f1 + 1 ≤ fr) (hlo : 8 + (3 + 11) + l1 ≤ lo) (hst : (st.map fun v => v.category).sum ≤ 8) (kk : Go E G A kc ks Q nL V1 (pc + 3) lv (.int r :: st)) : Go E G A kc ks Q nL V pc lv (.ref (AD G k) :: st) :=
  go_callV (y := yX9_hoists) (As := []) (ci := 9) (C := RX9) (T := TX9) (N := 11) F hd ml_X9_88 cw_X9_hoists im_X9_hoists se_X9_hoists in_X9 ⟨by decide +kernel, by decide +kernel, (by decide +kernel : (parseMethodDescriptor yX9_hoists.desc).map (fun d => d.parameters.length) = some 0)⟩ (kd_lt hk (by decide)) (by unfold wE; rw [hk]; rfl) rfl hM hfr hlo hst rfl kk
theorem cv_X9_91 {k : Nat} {x0 : Int32} {x1 : Int32} {f1 l1 : Nat} {V1 : Wd} {r : Int32} (F : Fx E G A RX9 cc nL ret fr lo kc ks) (hd : decode cc pc = .ok (.invokevirtual 91, 3)) (hk : kd k = 9) (hM : Ct (enL E) G yX9_wordAt cX9_wordAt 6 (some .int) f1 l1 [.ref (AD G k), .int x0, .int x1] V (some (.int r)) V1) (hfr : f1 + 1 ≤ fr) (hlo : 8 + (6 + 11) + l1 ≤ lo) (hst : (st.map fun v => v.category).sum ≤ 8) (kk : Go E G A kc ks Q nL V1 (pc + 3) lv (.int r :: st)) : Go E G A kc ks Q nL V pc lv (.int x1 :: .int x0 :: .ref (AD G k) :: st) :=
  go_callV (y := yX9_wordAt) (As := [.int x0, .int x1]) (ci := 9) (C := RX9) (T := TX9) (N := 11) F hd ml_X9_91 cw_X9_wordAt im_X9_wordAt se_X9_wordAt in_X9 ⟨by decide +kernel, by decide +kernel, (by decide +kernel : (parseMethodDescriptor yX9_wordAt.desc).map (fun d => d.parameters.length) = some 2)⟩ (kd_lt hk (by decide)) (by unfold wE; rw [hk]; rfl) rfl hM hfr hlo hst rfl kk
theorem cv_X9_94 {k : Nat} {f1 l1 : Nat} {V1 : Wd} (F : Fx E G A RX9 cc nL ret fr lo kc ks) (hd : decode cc pc = .ok (.invokevirtual 94, 3)) (hk : kd k = 9) (hM : Ct (enL E) G yX9_logs cX9_logs 3 none f1 l1 [.ref (AD G k)] V none V1) (hfr : f1 + 1 ≤ fr) (hlo : 8 + (3 + 11) + l1 ≤ lo) (hst : (st.map fun v => v.category).sum ≤ 8) (kk : Go E G A kc ks Q nL V1 (pc + 3) lv (st)) : Go E G A kc ks Q nL V pc lv (.ref (AD G k) :: st) :=
  go_callV (y := yX9_logs) (As := []) (ci := 9) (C := RX9) (T := TX9) (N := 11) F hd ml_X9_94 cw_X9_logs im_X9_logs se_X9_logs in_X9 ⟨by decide +kernel, by decide +kernel, (by decide +kernel : (parseMethodDescriptor yX9_logs.desc).map (fun d => d.parameters.length) = some 0)⟩ (kd_lt hk (by decide)) (by unfold wE; rw [hk]; rfl) rfl hM hfr hlo hst rfl kk
theorem cv_X9_97 {k : Nat} {f1 l1 : Nat} {V1 : Wd} (F : Fx E G A RX9 cc nL ret fr lo kc ks) (hd : decode cc pc = .ok (.invokevirtual 97, 3)) (hk : kd k = 9) (hM : Ct (enL E) G yX9_makeEmpty cX9_makeEmpty 2 none f1 l1 [.ref (AD G k)] V none V1) (hfr : f1 + 1 ≤ fr) (hlo : 8 + (2 + 11) + l1 ≤ lo) (hst : (st.map fun v => v.category).sum ≤ 8) (kk : Go E G A kc ks Q nL V1 (pc + 3) lv (st)) : Go E G A kc ks Q nL V pc lv (.ref (AD G k) :: st) :=
  go_callV (y := yX9_makeEmpty) (As := []) (ci := 9) (C := RX9) (T := TX9) (N := 11) F hd ml_X9_97 cw_X9_makeEmpty im_X9_makeEmpty se_X9_makeEmpty in_X9 ⟨by decide +kernel, by decide +kernel, (by decide +kernel : (parseMethodDescriptor yX9_makeEmpty.desc).map (fun d => d.parameters.length) = some 0)⟩ (kd_lt hk (by decide)) (by unfold wE; rw [hk]; rfl) rfl hM hfr hlo hst rfl kk
theorem cv_X9_100 {k : Nat} {x0 : Int32} {x1 : Int32} {f1 l1 : Nat} {V1 : Wd} {r : Int32} (F : Fx E G A RX9 cc nL ret fr lo kc ks) (hd : decode cc pc = .ok (.invokevirtual 100, 3)) (hk : kd k = 9) (hM : Ct (enL E) G yX9_isPlace cX9_isPlace 3 (some .boolean) f1 l1 [.ref (AD G k), .int x0, .int x1] V (some (.int r)) V1) (hfr : f1 + 1 ≤ fr) (hlo : 8 + (3 + 11) + l1 ≤ lo) (hst : (st.map fun v => v.category).sum ≤ 8) (kk : Go E G A kc ks Q nL V1 (pc + 3) lv (.int r :: st)) : Go E G A kc ks Q nL V pc lv (.int x1 :: .int x0 :: .ref (AD G k) :: st) :=
  go_callV (y := yX9_isPlace) (As := [.int x0, .int x1]) (ci := 9) (C := RX9) (T := TX9) (N := 11) F hd ml_X9_100 cw_X9_isPlace im_X9_isPlace se_X9_isPlace in_X9 ⟨by decide +kernel, by decide +kernel, (by decide +kernel : (parseMethodDescriptor yX9_isPlace.desc).map (fun d => d.parameters.length) = some 2)⟩ (kd_lt hk (by decide)) (by unfold wE; rw [hk]; rfl) rfl hM hfr hlo hst rfl kk
theorem cv_X9_104 {k : Nat} {x0 : Int32} {x1 : Int32} {f1 l1 : Nat} {V1 : Wd} {r : Int32} (F : Fx E G A RX9 cc nL ret fr lo kc ks) (hd : decode cc pc = .ok (.invokevirtual 104, 3)) (hk : kd k = 9) (hM : Ct (enL E) G yX9_flagOn cX9_flagOn 4 (some .int) f1 l1 [.ref (AD G k), .int x0, .int x1] V (some (.int r)) V1) (hfr : f1 + 1 ≤ fr) (hlo : 8 + (4 + 11) + l1 ≤ lo) (hst : (st.map fun v => v.category).sum ≤ 8) (kk : Go E G A kc ks Q nL V1 (pc + 3) lv (.int r :: st)) : Go E G A kc ks Q nL V pc lv (.int x1 :: .int x0 :: .ref (AD G k) :: st) :=
  go_callV (y := yX9_flagOn) (As := [.int x0, .int x1]) (ci := 9) (C := RX9) (T := TX9) (N := 11) F hd ml_X9_104 cw_X9_flagOn im_X9_flagOn se_X9_flagOn in_X9 ⟨by decide +kernel, by decide +kernel, (by decide +kernel : (parseMethodDescriptor yX9_flagOn.desc).map (fun d => d.parameters.length) = some 2)⟩ (kd_lt hk (by decide)) (by unfold wE; rw [hk]; rfl) rfl hM hfr hlo hst rfl kk
theorem cv_X9_107 {k : Nat} {x0 : Int32} {f1 l1 : Nat} {V1 : Wd} {r : Int32} (F : Fx E G A RX9 cc nL ret fr lo kc ks) (hd : decode cc pc = .ok (.invokevirtual 107, 3)) (hk : kd k = 9) (hM : Ct (enL E) G yX9_droops cX9_droops 2 (some .boolean) f1 l1 [.ref (AD G k), .int x0] V (some (.int r)) V1) (hfr : f1 + 1 ≤ fr) (hlo : 8 + (2 + 11) + l1 ≤ lo) (hst : (st.map fun v => v.category).sum ≤ 8) (kk : Go E G A kc ks Q nL V1 (pc + 3) lv (.int r :: st)) : Go E G A kc ks Q nL V pc lv (.int x0 :: .ref (AD G k) :: st) :=
  go_callV (y := yX9_droops) (As := [.int x0]) (ci := 9) (C := RX9) (T := TX9) (N := 11) F hd ml_X9_107 cw_X9_droops im_X9_droops se_X9_droops in_X9 ⟨by decide +kernel, by decide +kernel, (by decide +kernel : (parseMethodDescriptor yX9_droops.desc).map (fun d => d.parameters.length) = some 1)⟩ (kd_lt hk (by decide)) (by unfold wE; rw [hk]; rfl) rfl hM hfr hlo hst rfl kk
theorem cv_X9_110 {x0 : Int32} {f1 l1 : Nat} {V1 : Wd} {r : Int32} (F : Fx E G A RX9 cc nL ret fr lo kc ks) (hd : decode cc pc = .ok (.invokestatic 110, 3)) (hM : Ct (enL E) G yX9_isCode cX9_isCode 1 (some .boolean) f1 l1 [.int x0] V (some (.int r)) V1) (hfr : f1 + 1 ≤ fr) (hlo : 8 + (1 + 11) + l1 ≤ lo) (hst : (st.map fun v => v.category).sum ≤ 8) (kk : Go E G A kc ks Q nL V1 (pc + 3) lv (.int r :: st)) : Go E G A kc ks Q nL V pc lv (.int x0 :: st) :=
  go_callS (y := yX9_isCode) (As := [.int x0]) F hd ml_X9_110 cw_X9_isCode sm_X9_isCode in_X9 ⟨by decide +kernel, by decide +kernel, (by decide +kernel : (parseMethodDescriptor yX9_isCode.desc).map (fun d => d.parameters.length) = some 1)⟩ hM hfr hlo hst rfl kk
theorem cv_X9_113 {k : Nat} {x0 : Int32} {f1 l1 : Nat} {V1 : Wd} {r : Int32} (F : Fx E G A RX9 cc nL ret fr lo kc ks) (hd : decode cc pc = .ok (.invokevirtual 113, 3)) (hk : kd k = 9) (hM : Ct (enL E) G yX9_isEntry cX9_isEntry 2 (some .boolean) f1 l1 [.ref (AD G k), .int x0] V (some (.int r)) V1) (hfr : f1 + 1 ≤ fr) (hlo : 8 + (2 + 11) + l1 ≤ lo) (hst : (st.map fun v => v.category).sum ≤ 8) (kk : Go E G A kc ks Q nL V1 (pc + 3) lv (.int r :: st)) : Go E G A kc ks Q nL V pc lv (.int x0 :: .ref (AD G k) :: st) :=
  go_callV (y := yX9_isEntry) (As := [.int x0]) (ci := 9) (C := RX9) (T := TX9) (N := 11) F hd ml_X9_113 cw_X9_isEntry im_X9_isEntry se_X9_isEntry in_X9 ⟨by decide +kernel, by decide +kernel, (by decide +kernel : (parseMethodDescriptor yX9_isEntry.desc).map (fun d => d.parameters.length) = some 1)⟩ (kd_lt hk (by decide)) (by unfold wE; rw [hk]; rfl) rfl hM hfr hlo hst rfl kk
theorem cv_X9_116 {k : Nat} {x0 : Int32} {f1 l1 : Nat} {V1 : Wd} {r : Int32} (F : Fx E G A RX9 cc nL ret fr lo kc ks) (hd : decode cc pc = .ok (.invokevirtual 116, 3)) (hk : kd k = 9) (hM : Ct (enL E) G yX9_wordOf cX9_wordOf 2 (some .int) f1 l1 [.ref (AD G k), .int x0] V (some (.int r)) V1) (hfr : f1 + 1 ≤ fr) (hlo : 8 + (2 + 11) + l1 ≤ lo) (hst : (st.map fun v => v.category).sum ≤ 8) (kk : Go E G A kc ks Q nL V1 (pc + 3) lv (.int r :: st)) : Go E G A kc ks Q nL V pc lv (.int x0 :: .ref (AD G k) :: st) :=
  go_callV (y := yX9_wordOf) (As := [.int x0]) (ci := 9) (C := RX9) (T := TX9) (N := 11) F hd ml_X9_116 cw_X9_wordOf im_X9_wordOf se_X9_wordOf in_X9 ⟨by decide +kernel, by decide +kernel, (by decide +kernel : (parseMethodDescriptor yX9_wordOf.desc).map (fun d => d.parameters.length) = some 1)⟩ (kd_lt hk (by decide)) (by unfold wE; rw [hk]; rfl) rfl hM hfr hlo hst rfl kk
theorem cv_X9_119 {k : Nat} {x0 : Int32} {f1 l1 : Nat} {V1 : Wd} {r : Int32} (F : Fx E G A RX9 cc nL ret fr lo kc ks) (hd : decode cc pc = .ok (.invokevirtual 119, 3)) (hk : kd k = 9) (hM : Ct (enL E) G yX9_codeOf cX9_codeOf 2 (some .int) f1 l1 [.ref (AD G k), .int x0] V (some (.int r)) V1) (hfr : f1 + 1 ≤ fr) (hlo : 8 + (2 + 11) + l1 ≤ lo) (hst : (st.map fun v => v.category).sum ≤ 8) (kk : Go E G A kc ks Q nL V1 (pc + 3) lv (.int r :: st)) : Go E G A kc ks Q nL V pc lv (.int x0 :: .ref (AD G k) :: st) :=
  go_callV (y := yX9_codeOf) (As := [.int x0]) (ci := 9) (C := RX9) (T := TX9) (N := 11) F hd ml_X9_119 cw_X9_codeOf im_X9_codeOf se_X9_codeOf in_X9 ⟨by decide +kernel, by decide +kernel, (by decide +kernel : (parseMethodDescriptor yX9_codeOf.desc).map (fun d => d.parameters.length) = some 1)⟩ (kd_lt hk (by decide)) (by unfold wE; rw [hk]; rfl) rfl hM hfr hlo hst rfl kk
theorem cv_X9_122 {k : Nat} {x0 : Int32} {x1 : Int32} {f1 l1 : Nat} {V1 : Wd} {r : Int32} (F : Fx E G A RX9 cc nL ret fr lo kc ks) (hd : decode cc pc = .ok (.invokevirtual 122, 3)) (hk : kd k = 9) (hM : Ct (enL E) G yX9_taken cX9_taken 4 (some .int) f1 l1 [.ref (AD G k), .int x0, .int x1] V (some (.int r)) V1) (hfr : f1 + 1 ≤ fr) (hlo : 8 + (4 + 11) + l1 ≤ lo) (hst : (st.map fun v => v.category).sum ≤ 8) (kk : Go E G A kc ks Q nL V1 (pc + 3) lv (.int r :: st)) : Go E G A kc ks Q nL V pc lv (.int x1 :: .int x0 :: .ref (AD G k) :: st) :=
  go_callV (y := yX9_taken) (As := [.int x0, .int x1]) (ci := 9) (C := RX9) (T := TX9) (N := 11) F hd ml_X9_122 cw_X9_taken im_X9_taken se_X9_taken in_X9 ⟨by decide +kernel, by decide +kernel, (by decide +kernel : (parseMethodDescriptor yX9_taken.desc).map (fun d => d.parameters.length) = some 2)⟩ (kd_lt hk (by decide)) (by unfold wE; rw [hk]; rfl) rfl hM hfr hlo hst rfl kk
theorem cv_X9_125 {k : Nat} {x0 : Int32} {x1 : Int32} {f1 l1 : Nat} {V1 : Wd} {r : Int32} (F : Fx E G A RX9 cc nL ret fr lo kc ks) (hd : decode cc pc = .ok (.invokevirtual 125, 3)) (hk : kd k = 9) (hM : Ct (enL E) G yX9_read cX9_read 6 (some .int) f1 l1 [.ref (AD G k), .int x0, .int x1] V (some (.int r)) V1) (hfr : f1 + 1 ≤ fr) (hlo : 8 + (6 + 11) + l1 ≤ lo) (hst : (st.map fun v => v.category).sum ≤ 8) (kk : Go E G A kc ks Q nL V1 (pc + 3) lv (.int r :: st)) : Go E G A kc ks Q nL V pc lv (.int x1 :: .int x0 :: .ref (AD G k) :: st) :=
  go_callV (y := yX9_read) (As := [.int x0, .int x1]) (ci := 9) (C := RX9) (T := TX9) (N := 11) F hd ml_X9_125 cw_X9_read im_X9_read se_X9_read in_X9 ⟨by decide +kernel, by decide +kernel, (by decide +kernel : (parseMethodDescriptor yX9_read.desc).map (fun d => d.parameters.length) = some 2)⟩ (kd_lt hk (by decide)) (by unfold wE; rw [hk]; rfl) rfl hM hfr hlo hst rfl kk
theorem cv_X9_128 {k : Nat} {x0 : Int32} {f1 l1 : Nat} {V1 : Wd} {r : Int32} (F : Fx E G A RX9 cc nL ret fr lo kc ks) (hd : decode cc pc = .ok (.invokevirtual 128, 3)) (hk : kd k = 9) (hM : Ct (enL E) G yX9_knownBy cX9_knownBy 4 (some .int) f1 l1 [.ref (AD G k), .int x0] V (some (.int r)) V1) (hfr : f1 + 1 ≤ fr) (hlo : 8 + (4 + 11) + l1 ≤ lo) (hst : (st.map fun v => v.category).sum ≤ 8) (kk : Go E G A kc ks Q nL V1 (pc + 3) lv (.int r :: st)) : Go E G A kc ks Q nL V pc lv (.int x0 :: .ref (AD G k) :: st) :=
  go_callV (y := yX9_knownBy) (As := [.int x0]) (ci := 9) (C := RX9) (T := TX9) (N := 11) F hd ml_X9_128 cw_X9_knownBy im_X9_knownBy se_X9_knownBy in_X9 ⟨by decide +kernel, by decide +kernel, (by decide +kernel : (parseMethodDescriptor yX9_knownBy.desc).map (fun d => d.parameters.length) = some 1)⟩ (kd_lt hk (by decide)) (by unfold wE; rw [hk]; rfl) rfl hM hfr hlo hst rfl kk
theorem cv_X9_131 {k : Nat} {x0 : Int32} {f1 l1 : Nat} {V1 : Wd} {r : Int32} (F : Fx E G A RX9 cc nL ret fr lo kc ks) (hd : decode cc pc = .ok (.invokevirtual 131, 3)) (hk : kd k = 9) (hM : Ct (enL E) G yX9_knowsAll cX9_knowsAll 2 (some .boolean) f1 l1 [.ref (AD G k), .int x0] V (some (.int r)) V1) (hfr : f1 + 1 ≤ fr) (hlo : 8 + (2 + 11) + l1 ≤ lo) (hst : (st.map fun v => v.category).sum ≤ 8) (kk : Go E G A kc ks Q nL V1 (pc + 3) lv (.int r :: st)) : Go E G A kc ks Q nL V pc lv (.int x0 :: .ref (AD G k) :: st) :=
  go_callV (y := yX9_knowsAll) (As := [.int x0]) (ci := 9) (C := RX9) (T := TX9) (N := 11) F hd ml_X9_131 cw_X9_knowsAll im_X9_knowsAll se_X9_knowsAll in_X9 ⟨by decide +kernel, by decide +kernel, (by decide +kernel : (parseMethodDescriptor yX9_knowsAll.desc).map (fun d => d.parameters.length) = some 1)⟩ (kd_lt hk (by decide)) (by unfold wE; rw [hk]; rfl) rfl hM hfr hlo hst rfl kk
theorem cv_X9_134 {k : Nat} {f1 l1 : Nat} {V1 : Wd} {r : Int32} (F : Fx E G A RX9 cc nL ret fr lo kc ks) (hd : decode cc pc = .ok (.invokevirtual 134, 3)) (hk : kd k = 9) (hM : Ct (enL E) G yX9_isSame cX9_isSame 3 (some .int) f1 l1 [.ref (AD G k)] V (some (.int r)) V1) (hfr : f1 + 1 ≤ fr) (hlo : 8 + (3 + 11) + l1 ≤ lo) (hst : (st.map fun v => v.category).sum ≤ 8) (kk : Go E G A kc ks Q nL V1 (pc + 3) lv (.int r :: st)) : Go E G A kc ks Q nL V pc lv (.ref (AD G k) :: st) :=
  go_callV (y := yX9_isSame) (As := []) (ci := 9) (C := RX9) (T := TX9) (N := 11) F hd ml_X9_134 cw_X9_isSame im_X9_isSame se_X9_isSame in_X9 ⟨by decide +kernel, by decide +kernel, (by decide +kernel : (parseMethodDescriptor yX9_isSame.desc).map (fun d => d.parameters.length) = some 0)⟩ (kd_lt hk (by decide)) (by unfold wE; rw [hk]; rfl) rfl hM hfr hlo hst rfl kk
theorem cv_X9_137 {x0 : Int32} {f1 l1 : Nat} {V1 : Wd} {r : Int32} (F : Fx E G A RX9 cc nL ret fr lo kc ks) (hd : decode cc pc = .ok (.invokestatic 137, 3)) (hM : Ct (enL E) G yX9_lengthOf cX9_lengthOf 1 (some .int) f1 l1 [.int x0] V (some (.int r)) V1) (hfr : f1 + 1 ≤ fr) (hlo : 8 + (1 + 11) + l1 ≤ lo) (hst : (st.map fun v => v.category).sum ≤ 8) (kk : Go E G A kc ks Q nL V1 (pc + 3) lv (.int r :: st)) : Go E G A kc ks Q nL V pc lv (.int x0 :: st) :=
  go_callS (y := yX9_lengthOf) (As := [.int x0]) F hd ml_X9_137 cw_X9_lengthOf sm_X9_lengthOf in_X9 ⟨by decide +kernel, by decide +kernel, (by decide +kernel : (parseMethodDescriptor yX9_lengthOf.desc).map (fun d => d.parameters.length) = some 1)⟩ hM hfr hlo hst rfl kk
theorem cv_X9_140 {k : Nat} {x0 : Int32} {f1 l1 : Nat} {V1 : Wd} {r : Int32} (F : Fx E G A RX9 cc nL ret fr lo kc ks) (hd : decode cc pc = .ok (.invokevirtual 140, 3)) (hk : kd k = 9) (hM : Ct (enL E) G yX9_isKnownAs cX9_isKnownAs 5 (some .boolean) f1 l1 [.ref (AD G k), .int x0] V (some (.int r)) V1) (hfr : f1 + 1 ≤ fr) (hlo : 8 + (5 + 11) + l1 ≤ lo) (hst : (st.map fun v => v.category).sum ≤ 8) (kk : Go E G A kc ks Q nL V1 (pc + 3) lv (.int r :: st)) : Go E G A kc ks Q nL V pc lv (.int x0 :: .ref (AD G k) :: st) :=
  go_callV (y := yX9_isKnownAs) (As := [.int x0]) (ci := 9) (C := RX9) (T := TX9) (N := 11) F hd ml_X9_140 cw_X9_isKnownAs im_X9_isKnownAs se_X9_isKnownAs in_X9 ⟨by decide +kernel, by decide +kernel, (by decide +kernel : (parseMethodDescriptor yX9_isKnownAs.desc).map (fun d => d.parameters.length) = some 1)⟩ (kd_lt hk (by decide)) (by unfold wE; rw [hk]; rfl) rfl hM hfr hlo hst rfl kk
theorem cv_X9_152 {k : Nat} {f1 l1 : Nat} {V1 : Wd} {r : Int32} (F : Fx E G A RX9 cc nL ret fr lo kc ks) (hd : decode cc pc = .ok (.invokevirtual 152, 3)) (hk : kd k = 9) (hM : Ct (enL E) G yX9_letter cX9_letter 1 (some .int) f1 l1 [.ref (AD G k)] V (some (.int r)) V1) (hfr : f1 + 1 ≤ fr) (hlo : 8 + (1 + 11) + l1 ≤ lo) (hst : (st.map fun v => v.category).sum ≤ 8) (kk : Go E G A kc ks Q nL V1 (pc + 3) lv (.int r :: st)) : Go E G A kc ks Q nL V pc lv (.ref (AD G k) :: st) :=
  go_callV (y := yX9_letter) (As := []) (ci := 9) (C := RX9) (T := TX9) (N := 11) F hd ml_X9_152 cw_X9_letter im_X9_letter se_X9_letter in_X9 ⟨by decide +kernel, by decide +kernel, (by decide +kernel : (parseMethodDescriptor yX9_letter.desc).map (fun d => d.parameters.length) = some 0)⟩ (kd_lt hk (by decide)) (by unfold wE; rw [hk]; rfl) rfl hM hfr hlo hst rfl kk
theorem cv_X9_155 {k : Nat} {x0 : Int32} {f1 l1 : Nat} {V1 : Wd} (F : Fx E G A RX9 cc nL ret fr lo kc ks) (hd : decode cc pc = .ok (.invokevirtual 155, 3)) (hk : kd k = 9) (hM : Ct (enL E) G yX9_wants cX9_wants 2 none f1 l1 [.ref (AD G k), .int x0] V none V1) (hfr : f1 + 1 ≤ fr) (hlo : 8 + (2 + 11) + l1 ≤ lo) (hst : (st.map fun v => v.category).sum ≤ 8) (kk : Go E G A kc ks Q nL V1 (pc + 3) lv (st)) : Go E G A kc ks Q nL V pc lv (.int x0 :: .ref (AD G k) :: st) :=
  go_callV (y := yX9_wants) (As := [.int x0]) (ci := 9) (C := RX9) (T := TX9) (N := 11) F hd ml_X9_155 cw_X9_wants im_X9_wants se_X9_wants in_X9 ⟨by decide +kernel, by decide +kernel, (by decide +kernel : (parseMethodDescriptor yX9_wants.desc).map (fun d => d.parameters.length) = some 1)⟩ (kd_lt hk (by decide)) (by unfold wE; rw [hk]; rfl) rfl hM hfr hlo hst rfl kk
theorem cv_X9_159 {k : Nat} {x0 : Int32} {f1 l1 : Nat} {V1 : Wd} {r : Int32} (F : Fx E G A RX9 cc nL ret fr lo kc ks) (hd : decode cc pc = .ok (.invokevirtual 159, 3)) (hk : kd k = 9) (hM : Ct (enL E) G yX9_isSignNext cX9_isSignNext 2 (some .boolean) f1 l1 [.ref (AD G k), .int x0] V (some (.int r)) V1) (hfr : f1 + 1 ≤ fr) (hlo : 8 + (2 + 11) + l1 ≤ lo) (hst : (st.map fun v => v.category).sum ≤ 8) (kk : Go E G A kc ks Q nL V1 (pc + 3) lv (.int r :: st)) : Go E G A kc ks Q nL V pc lv (.int x0 :: .ref (AD G k) :: st) :=
  go_callV (y := yX9_isSignNext) (As := [.int x0]) (ci := 9) (C := RX9) (T := TX9) (N := 11) F hd ml_X9_159 cw_X9_isSignNext im_X9_isSignNext se_X9_isSignNext in_X9 ⟨by decide +kernel, by decide +kernel, (by decide +kernel : (parseMethodDescriptor yX9_isSignNext.desc).map (fun d => d.parameters.length) = some 1)⟩ (kd_lt hk (by decide)) (by unfold wE; rw [hk]; rfl) rfl hM hfr hlo hst rfl kk
theorem cv_X9_162 {k : Nat} {x0 : Int32} {x1 : Int32} {f1 l1 : Nat} {V1 : Wd} {r : Int32} (F : Fx E G A RX9 cc nL ret fr lo kc ks) (hd : decode cc pc = .ok (.invokevirtual 162, 3)) (hk : kd k = 9) (hM : Ct (enL E) G yX9_figure cX9_figure 4 (some .int) f1 l1 [.ref (AD G k), .int x0, .int x1] V (some (.int r)) V1) (hfr : f1 + 1 ≤ fr) (hlo : 8 + (4 + 11) + l1 ≤ lo) (hst : (st.map fun v => v.category).sum ≤ 8) (kk : Go E G A kc ks Q nL V1 (pc + 3) lv (.int r :: st)) : Go E G A kc ks Q nL V pc lv (.int x1 :: .int x0 :: .ref (AD G k) :: st) :=
  go_callV (y := yX9_figure) (As := [.int x0, .int x1]) (ci := 9) (C := RX9) (T := TX9) (N := 11) F hd ml_X9_162 cw_X9_figure im_X9_figure se_X9_figure in_X9 ⟨by decide +kernel, by decide +kernel, (by decide +kernel : (parseMethodDescriptor yX9_figure.desc).map (fun d => d.parameters.length) = some 2)⟩ (kd_lt hk (by decide)) (by unfold wE; rw [hk]; rfl) rfl hM hfr hlo hst rfl kk
theorem cv_X9_168 {k : Nat} {x0 : Int32} {f1 l1 : Nat} {V1 : Wd} (F : Fx E G A RX9 cc nL ret fr lo kc ks) (hd : decode cc pc = .ok (.invokevirtual 168, 3)) (hk : kd k = 9) (hM : Ct (enL E) G yX9_readSign cX9_readSign 4 none f1 l1 [.ref (AD G k), .int x0] V none V1) (hfr : f1 + 1 ≤ fr) (hlo : 8 + (4 + 11) + l1 ≤ lo) (hst : (st.map fun v => v.category).sum ≤ 8) (kk : Go E G A kc ks Q nL V1 (pc + 3) lv (st)) : Go E G A kc ks Q nL V pc lv (.int x0 :: .ref (AD G k) :: st) :=
  go_callV (y := yX9_readSign) (As := [.int x0]) (ci := 9) (C := RX9) (T := TX9) (N := 11) F hd ml_X9_168 cw_X9_readSign im_X9_readSign se_X9_readSign in_X9 ⟨by decide +kernel, by decide +kernel, (by decide +kernel : (parseMethodDescriptor yX9_readSign.desc).map (fun d => d.parameters.length) = some 1)⟩ (kd_lt hk (by decide)) (by unfold wE; rw [hk]; rfl) rfl hM hfr hlo hst rfl kk
theorem cv_X9_172 {k : Nat} {f1 l1 : Nat} {V1 : Wd} (F : Fx E G A RX9 cc nL ret fr lo kc ks) (hd : decode cc pc = .ok (.invokevirtual 172, 3)) (hk : kd k = 9) (hM : Ct (enL E) G yX9_readHoist cX9_readHoist 2 none f1 l1 [.ref (AD G k)] V none V1) (hfr : f1 + 1 ≤ fr) (hlo : 8 + (2 + 11) + l1 ≤ lo) (hst : (st.map fun v => v.category).sum ≤ 8) (kk : Go E G A kc ks Q nL V1 (pc + 3) lv (st)) : Go E G A kc ks Q nL V pc lv (.ref (AD G k) :: st) :=
  go_callV (y := yX9_readHoist) (As := []) (ci := 9) (C := RX9) (T := TX9) (N := 11) F hd ml_X9_172 cw_X9_readHoist im_X9_readHoist se_X9_readHoist in_X9 ⟨by decide +kernel, by decide +kernel, (by decide +kernel : (parseMethodDescriptor yX9_readHoist.desc).map (fun d => d.parameters.length) = some 0)⟩ (kd_lt hk (by decide)) (by unfold wE; rw [hk]; rfl) rfl hM hfr hlo hst rfl kk
theorem cv_X9_175 {k : Nat} {f1 l1 : Nat} {V1 : Wd} {r : Int32} (F : Fx E G A RX9 cc nL ret fr lo kc ks) (hd : decode cc pc = .ok (.invokevirtual 175, 3)) (hk : kd k = 9) (hM : Ct (enL E) G yX9_errorPosition cX9_errorPosition 2 (some .int) f1 l1 [.ref (AD G k)] V (some (.int r)) V1) (hfr : f1 + 1 ≤ fr) (hlo : 8 + (2 + 11) + l1 ≤ lo) (hst : (st.map fun v => v.category).sum ≤ 8) (kk : Go E G A kc ks Q nL V1 (pc + 3) lv (.int r :: st)) : Go E G A kc ks Q nL V pc lv (.ref (AD G k) :: st) :=
  go_callV (y := yX9_errorPosition) (As := []) (ci := 9) (C := RX9) (T := TX9) (N := 11) F hd ml_X9_175 cw_X9_errorPosition im_X9_errorPosition se_X9_errorPosition in_X9 ⟨by decide +kernel, by decide +kernel, (by decide +kernel : (parseMethodDescriptor yX9_errorPosition.desc).map (fun d => d.parameters.length) = some 0)⟩ (kd_lt hk (by decide)) (by unfold wE; rw [hk]; rfl) rfl hM hfr hlo hst rfl kk
theorem cv_X9_178 {k : Nat} {x0 : Int32} {f1 l1 : Nat} {V1 : Wd} {r : Int32} (F : Fx E G A RX9 cc nL ret fr lo kc ks) (hd : decode cc pc = .ok (.invokevirtual 178, 3)) (hk : kd k = 9) (hM : Ct (enL E) G yX9_neededOf cX9_neededOf 5 (some .int) f1 l1 [.ref (AD G k), .int x0] V (some (.int r)) V1) (hfr : f1 + 1 ≤ fr) (hlo : 8 + (5 + 11) + l1 ≤ lo) (hst : (st.map fun v => v.category).sum ≤ 8) (kk : Go E G A kc ks Q nL V1 (pc + 3) lv (.int r :: st)) : Go E G A kc ks Q nL V pc lv (.int x0 :: .ref (AD G k) :: st) :=
  go_callV (y := yX9_neededOf) (As := [.int x0]) (ci := 9) (C := RX9) (T := TX9) (N := 11) F hd ml_X9_178 cw_X9_neededOf im_X9_neededOf se_X9_neededOf in_X9 ⟨by decide +kernel, by decide +kernel, (by decide +kernel : (parseMethodDescriptor yX9_neededOf.desc).map (fun d => d.parameters.length) = some 1)⟩ (kd_lt hk (by decide)) (by unfold wE; rw [hk]; rfl) rfl hM hfr hlo hst rfl kk
end LINKS
end
