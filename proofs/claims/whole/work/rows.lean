section
-- ===== PART A: goes FIRST, ahead of the names: the tables' words, and 'selects' of the private methods out of them =====
/-- a private method of a class that the tables say can be made, by its rows of tables_1 -/
def lw_okq (q : MethodName × Nat) : Prop := (q.1.cls ≠ "java/lang/invoke/MethodHandle" ∧ q.1.cls ≠ "java/lang/invoke/VarHandle") ∧ Cond.instantiable q.1.cls q.2 ∈ tables_1 ∧ Cond.privateMethod q.1 ∈ tables_1 ∧ Cond.instanceMethod q.1 ∈ tables_1
theorem lw_p0 : lw_okq (⟨"SaltToLiars$Reader", "readNumbers", "(LSaltToLiars$Letters;I)Z"⟩, 2) := ⟨⟨by decide +kernel, by decide +kernel⟩, List.mem_of_getElem? (i := 45) (by decide +kernel), List.mem_of_getElem? (i := 393) (by decide +kernel), List.mem_of_getElem? (i := 394) (by decide +kernel)⟩
theorem lw_p1 : lw_okq (⟨"SaltToLiars$Reader", "readNumber", "(LSaltToLiars$Letters;I)Z"⟩, 2) := ⟨⟨by decide +kernel, by decide +kernel⟩, List.mem_of_getElem? (i := 45) (by decide +kernel), List.mem_of_getElem? (i := 397) (by decide +kernel), List.mem_of_getElem? (i := 398) (by decide +kernel)⟩
theorem lw_p2 : lw_okq (⟨"SaltToLiars$Table", "takeGuest", "(III)Z"⟩, 9) := ⟨⟨by decide +kernel, by decide +kernel⟩, List.mem_of_getElem? (i := 264) (by decide +kernel), List.mem_of_getElem? (i := 408) (by decide +kernel), List.mem_of_getElem? (i := 409) (by decide +kernel)⟩
theorem lw_p3 : lw_okq (⟨"SaltToLiars$Table", "takeThing", "(II)Z"⟩, 9) := ⟨⟨by decide +kernel, by decide +kernel⟩, List.mem_of_getElem? (i := 264) (by decide +kernel), List.mem_of_getElem? (i := 412) (by decide +kernel), List.mem_of_getElem? (i := 413) (by decide +kernel)⟩
theorem lw_p4 : lw_okq (⟨"SaltToLiars$Table", "takeLaw", "(I)Z"⟩, 9) := ⟨⟨by decide +kernel, by decide +kernel⟩, List.mem_of_getElem? (i := 264) (by decide +kernel), List.mem_of_getElem? (i := 416) (by decide +kernel), List.mem_of_getElem? (i := 417) (by decide +kernel)⟩
theorem lw_p5 : lw_okq (⟨"SaltToLiars$Table", "takeStart", "(I)Z"⟩, 9) := ⟨⟨by decide +kernel, by decide +kernel⟩, List.mem_of_getElem? (i := 264) (by decide +kernel), List.mem_of_getElem? (i := 420) (by decide +kernel), List.mem_of_getElem? (i := 421) (by decide +kernel)⟩
theorem lw_p6 : lw_okq (⟨"SaltToLiars", "takeDraft", "()V"⟩, 12) := ⟨⟨by decide +kernel, by decide +kernel⟩, List.mem_of_getElem? (i := 21) (by decide +kernel), List.mem_of_getElem? (i := 424) (by decide +kernel), List.mem_of_getElem? (i := 425) (by decide +kernel)⟩
theorem lw_p7 : lw_okq (⟨"SaltToLiars$Table", "towardDeaf", "(ILSaltToLiars$Round;)I"⟩, 9) := ⟨⟨by decide +kernel, by decide +kernel⟩, List.mem_of_getElem? (i := 264) (by decide +kernel), List.mem_of_getElem? (i := 572) (by decide +kernel), List.mem_of_getElem? (i := 573) (by decide +kernel)⟩
theorem lw_p8 : lw_okq (⟨"SaltToLiars$Table", "shorterWay", "(II)I"⟩, 9) := ⟨⟨by decide +kernel, by decide +kernel⟩, List.mem_of_getElem? (i := 264) (by decide +kernel), List.mem_of_getElem? (i := 581) (by decide +kernel), List.mem_of_getElem? (i := 582) (by decide +kernel)⟩
theorem lw_p9 : lw_okq (⟨"SaltToLiars$Table", "upward", "(II)I"⟩, 9) := ⟨⟨by decide +kernel, by decide +kernel⟩, List.mem_of_getElem? (i := 264) (by decide +kernel), List.mem_of_getElem? (i := 585) (by decide +kernel), List.mem_of_getElem? (i := 586) (by decide +kernel)⟩
theorem lw_p10 : lw_okq (⟨"SaltToLiars$Table", "pulled", "(IIII)I"⟩, 9) := ⟨⟨by decide +kernel, by decide +kernel⟩, List.mem_of_getElem? (i := 264) (by decide +kernel), List.mem_of_getElem? (i := 593) (by decide +kernel), List.mem_of_getElem? (i := 594) (by decide +kernel)⟩
theorem lw_p11 : lw_okq (⟨"SaltToLiars$Evening", "countLiars", "(LSaltToLiars$Round;I)V"⟩, 7) := ⟨⟨by decide +kernel, by decide +kernel⟩, List.mem_of_getElem? (i := 58) (by decide +kernel), List.mem_of_getElem? (i := 598) (by decide +kernel), List.mem_of_getElem? (i := 599) (by decide +kernel)⟩
theorem lw_p12 : lw_okq (⟨"SaltToLiars", "arePair", "(II)Z"⟩, 12) := ⟨⟨by decide +kernel, by decide +kernel⟩, List.mem_of_getElem? (i := 21) (by decide +kernel), List.mem_of_getElem? (i := 607) (by decide +kernel), List.mem_of_getElem? (i := 608) (by decide +kernel)⟩
theorem lw_p13 : lw_okq (⟨"SaltToLiars$Ways", "admit", "(LSaltToLiars$Table;I)V"⟩, 8) := ⟨⟨by decide +kernel, by decide +kernel⟩, List.mem_of_getElem? (i := 138) (by decide +kernel), List.mem_of_getElem? (i := 653) (by decide +kernel), List.mem_of_getElem? (i := 654) (by decide +kernel)⟩
theorem lw_p14 : lw_okq (⟨"SaltToLiars$Ways", "mostAlike", "(LSaltToLiars$Table;III)I"⟩, 8) := ⟨⟨by decide +kernel, by decide +kernel⟩, List.mem_of_getElem? (i := 138) (by decide +kernel), List.mem_of_getElem? (i := 676) (by decide +kernel), List.mem_of_getElem? (i := 677) (by decide +kernel)⟩
theorem lw_p15 : lw_okq (⟨"SaltToLiars$Paths", "spread", "(LSaltToLiars$Table;)V"⟩, 3) := ⟨⟨by decide +kernel, by decide +kernel⟩, List.mem_of_getElem? (i := 177) (by decide +kernel), List.mem_of_getElem? (i := 698) (by decide +kernel), List.mem_of_getElem? (i := 699) (by decide +kernel)⟩
def lw_privs_1 : List (MethodName × Nat) := [(⟨"SaltToLiars$Reader", "readNumbers", "(LSaltToLiars$Letters;I)Z"⟩, 2), (⟨"SaltToLiars$Reader", "readNumber", "(LSaltToLiars$Letters;I)Z"⟩, 2), (⟨"SaltToLiars$Table", "takeGuest", "(III)Z"⟩, 9), (⟨"SaltToLiars$Table", "takeThing", "(II)Z"⟩, 9), (⟨"SaltToLiars$Table", "takeLaw", "(I)Z"⟩, 9), (⟨"SaltToLiars$Table", "takeStart", "(I)Z"⟩, 9), (⟨"SaltToLiars", "takeDraft", "()V"⟩, 12), (⟨"SaltToLiars$Table", "towardDeaf", "(ILSaltToLiars$Round;)I"⟩, 9), (⟨"SaltToLiars$Table", "shorterWay", "(II)I"⟩, 9), (⟨"SaltToLiars$Table", "upward", "(II)I"⟩, 9), (⟨"SaltToLiars$Table", "pulled", "(IIII)I"⟩, 9), (⟨"SaltToLiars$Evening", "countLiars", "(LSaltToLiars$Round;I)V"⟩, 7), (⟨"SaltToLiars", "arePair", "(II)Z"⟩, 12), (⟨"SaltToLiars$Ways", "admit", "(LSaltToLiars$Table;I)V"⟩, 8), (⟨"SaltToLiars$Ways", "mostAlike", "(LSaltToLiars$Table;III)I"⟩, 8), (⟨"SaltToLiars$Paths", "spread", "(LSaltToLiars$Table;)V"⟩, 3)]
theorem lw_r1 : ∀ q ∈ lw_privs_1, lw_okq q := List.forall_mem_cons.mpr ⟨lw_p0, List.forall_mem_cons.mpr ⟨lw_p1, List.forall_mem_cons.mpr ⟨lw_p2, List.forall_mem_cons.mpr ⟨lw_p3, List.forall_mem_cons.mpr ⟨lw_p4, List.forall_mem_cons.mpr ⟨lw_p5, List.forall_mem_cons.mpr ⟨lw_p6, List.forall_mem_cons.mpr ⟨lw_p7, List.forall_mem_cons.mpr ⟨lw_p8, List.forall_mem_cons.mpr ⟨lw_p9, List.forall_mem_cons.mpr ⟨lw_p10, List.forall_mem_cons.mpr ⟨lw_p11, List.forall_mem_cons.mpr ⟨lw_p12, List.forall_mem_cons.mpr ⟨lw_p13, List.forall_mem_cons.mpr ⟨lw_p14, List.forall_mem_cons.mpr ⟨lw_p15, fun _ h => absurd h List.not_mem_nil⟩⟩⟩⟩⟩⟩⟩⟩⟩⟩⟩⟩⟩⟩⟩⟩
theorem lw_p16 : lw_okq (⟨"SaltToLiars$Paths", "hear", "(IIZ)V"⟩, 3) := ⟨⟨by decide +kernel, by decide +kernel⟩, List.mem_of_getElem? (i := 177) (by decide +kernel), List.mem_of_getElem? (i := 710) (by decide +kernel), List.mem_of_getElem? (i := 711) (by decide +kernel)⟩
theorem lw_p17 : lw_okq (⟨"SaltToLiars$Pact", "tryWay", "(LSaltToLiars$Table;II)V"⟩, 7) := ⟨⟨by decide +kernel, by decide +kernel⟩, List.mem_of_getElem? (i := 195) (by decide +kernel), List.mem_of_getElem? (i := 747) (by decide +kernel), List.mem_of_getElem? (i := 748) (by decide +kernel)⟩
theorem lw_p18 : lw_okq (⟨"SaltToLiars$Pact", "lie", "(LSaltToLiars$Table;I)V"⟩, 7) := ⟨⟨by decide +kernel, by decide +kernel⟩, List.mem_of_getElem? (i := 195) (by decide +kernel), List.mem_of_getElem? (i := 752) (by decide +kernel), List.mem_of_getElem? (i := 753) (by decide +kernel)⟩
theorem lw_p19 : lw_okq (⟨"SaltToLiars$Pact", "gain", "(LSaltToLiars$Table;IIZ)I"⟩, 7) := ⟨⟨by decide +kernel, by decide +kernel⟩, List.mem_of_getElem? (i := 195) (by decide +kernel), List.mem_of_getElem? (i := 759) (by decide +kernel), List.mem_of_getElem? (i := 760) (by decide +kernel)⟩
theorem lw_p20 : lw_okq (⟨"SaltToLiarsModel", "begins", "()V"⟩, 16) := ⟨⟨by decide +kernel, by decide +kernel⟩, List.mem_of_getElem? (i := 836) (by decide +kernel), List.mem_of_getElem? (i := 842) (by decide +kernel), List.mem_of_getElem? (i := 843) (by decide +kernel)⟩
theorem lw_p21 : lw_okq (⟨"SaltToLiarsModel", "guestOf", "(III)V"⟩, 16) := ⟨⟨by decide +kernel, by decide +kernel⟩, List.mem_of_getElem? (i := 836) (by decide +kernel), List.mem_of_getElem? (i := 846) (by decide +kernel), List.mem_of_getElem? (i := 847) (by decide +kernel)⟩
theorem lw_p22 : lw_okq (⟨"SaltToLiarsModel", "thingOf", "(II)V"⟩, 16) := ⟨⟨by decide +kernel, by decide +kernel⟩, List.mem_of_getElem? (i := 836) (by decide +kernel), List.mem_of_getElem? (i := 850) (by decide +kernel), List.mem_of_getElem? (i := 851) (by decide +kernel)⟩
theorem lw_p23 : lw_okq (⟨"SaltToLiarsModel", "lays", "()V"⟩, 16) := ⟨⟨by decide +kernel, by decide +kernel⟩, List.mem_of_getElem? (i := 836) (by decide +kernel), List.mem_of_getElem? (i := 854) (by decide +kernel), List.mem_of_getElem? (i := 855) (by decide +kernel)⟩
theorem lw_p24 : lw_okq (⟨"SaltToLiarsModel", "reads", "()I"⟩, 16) := ⟨⟨by decide +kernel, by decide +kernel⟩, List.mem_of_getElem? (i := 836) (by decide +kernel), List.mem_of_getElem? (i := 922) (by decide +kernel), List.mem_of_getElem? (i := 923) (by decide +kernel)⟩
theorem lw_p25 : lw_okq (⟨"SaltToLiarsModel", "readsItem", "(I)Z"⟩, 16) := ⟨⟨by decide +kernel, by decide +kernel⟩, List.mem_of_getElem? (i := 836) (by decide +kernel), List.mem_of_getElem? (i := 926) (by decide +kernel), List.mem_of_getElem? (i := 927) (by decide +kernel)⟩
theorem lw_p26 : lw_okq (⟨"SaltToLiarsModel", "number", "(II)I"⟩, 16) := ⟨⟨by decide +kernel, by decide +kernel⟩, List.mem_of_getElem? (i := 836) (by decide +kernel), List.mem_of_getElem? (i := 930) (by decide +kernel), List.mem_of_getElem? (i := 931) (by decide +kernel)⟩
theorem lw_p27 : lw_okq (⟨"SaltToLiarsModel", "letterAt", "(I)I"⟩, 16) := ⟨⟨by decide +kernel, by decide +kernel⟩, List.mem_of_getElem? (i := 836) (by decide +kernel), List.mem_of_getElem? (i := 934) (by decide +kernel), List.mem_of_getElem? (i := 935) (by decide +kernel)⟩
theorem lw_p28 : lw_okq (⟨"SaltToLiarsModel", "isGuest", "(I)Z"⟩, 16) := ⟨⟨by decide +kernel, by decide +kernel⟩, List.mem_of_getElem? (i := 836) (by decide +kernel), List.mem_of_getElem? (i := 949) (by decide +kernel), List.mem_of_getElem? (i := 950) (by decide +kernel)⟩
theorem lw_p29 : lw_okq (⟨"SaltToLiarsModel", "far", "(II)I"⟩, 16) := ⟨⟨by decide +kernel, by decide +kernel⟩, List.mem_of_getElem? (i := 836) (by decide +kernel), List.mem_of_getElem? (i := 953) (by decide +kernel), List.mem_of_getElem? (i := 954) (by decide +kernel)⟩
theorem lw_p30 : lw_okq (⟨"SaltToLiarsModel", "up", "(II)I"⟩, 16) := ⟨⟨by decide +kernel, by decide +kernel⟩, List.mem_of_getElem? (i := 836) (by decide +kernel), List.mem_of_getElem? (i := 957) (by decide +kernel), List.mem_of_getElem? (i := 958) (by decide +kernel)⟩
theorem lw_p31 : lw_okq (⟨"SaltToLiarsModel", "isThing", "(I)Z"⟩, 16) := ⟨⟨by decide +kernel, by decide +kernel⟩, List.mem_of_getElem? (i := 836) (by decide +kernel), List.mem_of_getElem? (i := 965) (by decide +kernel), List.mem_of_getElem? (i := 966) (by decide +kernel)⟩
def lw_privs_2 : List (MethodName × Nat) := [(⟨"SaltToLiars$Paths", "hear", "(IIZ)V"⟩, 3), (⟨"SaltToLiars$Pact", "tryWay", "(LSaltToLiars$Table;II)V"⟩, 7), (⟨"SaltToLiars$Pact", "lie", "(LSaltToLiars$Table;I)V"⟩, 7), (⟨"SaltToLiars$Pact", "gain", "(LSaltToLiars$Table;IIZ)I"⟩, 7), (⟨"SaltToLiarsModel", "begins", "()V"⟩, 16), (⟨"SaltToLiarsModel", "guestOf", "(III)V"⟩, 16), (⟨"SaltToLiarsModel", "thingOf", "(II)V"⟩, 16), (⟨"SaltToLiarsModel", "lays", "()V"⟩, 16), (⟨"SaltToLiarsModel", "reads", "()I"⟩, 16), (⟨"SaltToLiarsModel", "readsItem", "(I)Z"⟩, 16), (⟨"SaltToLiarsModel", "number", "(II)I"⟩, 16), (⟨"SaltToLiarsModel", "letterAt", "(I)I"⟩, 16), (⟨"SaltToLiarsModel", "isGuest", "(I)Z"⟩, 16), (⟨"SaltToLiarsModel", "far", "(II)I"⟩, 16), (⟨"SaltToLiarsModel", "up", "(II)I"⟩, 16), (⟨"SaltToLiarsModel", "isThing", "(I)Z"⟩, 16)]
theorem lw_r2 : ∀ q ∈ lw_privs_2, lw_okq q := List.forall_mem_cons.mpr ⟨lw_p16, List.forall_mem_cons.mpr ⟨lw_p17, List.forall_mem_cons.mpr ⟨lw_p18, List.forall_mem_cons.mpr ⟨lw_p19, List.forall_mem_cons.mpr ⟨lw_p20, List.forall_mem_cons.mpr ⟨lw_p21, List.forall_mem_cons.mpr ⟨lw_p22, List.forall_mem_cons.mpr ⟨lw_p23, List.forall_mem_cons.mpr ⟨lw_p24, List.forall_mem_cons.mpr ⟨lw_p25, List.forall_mem_cons.mpr ⟨lw_p26, List.forall_mem_cons.mpr ⟨lw_p27, List.forall_mem_cons.mpr ⟨lw_p28, List.forall_mem_cons.mpr ⟨lw_p29, List.forall_mem_cons.mpr ⟨lw_p30, List.forall_mem_cons.mpr ⟨lw_p31, fun _ h => absurd h List.not_mem_nil⟩⟩⟩⟩⟩⟩⟩⟩⟩⟩⟩⟩⟩⟩⟩⟩
theorem lw_p32 : lw_okq (⟨"SaltToLiarsModel", "counts", "(II)I"⟩, 16) := ⟨⟨by decide +kernel, by decide +kernel⟩, List.mem_of_getElem? (i := 836) (by decide +kernel), List.mem_of_getElem? (i := 973) (by decide +kernel), List.mem_of_getElem? (i := 974) (by decide +kernel)⟩
theorem lw_p33 : lw_okq (⟨"SaltToLiarsModel", "keeps", "()V"⟩, 16) := ⟨⟨by decide +kernel, by decide +kernel⟩, List.mem_of_getElem? (i := 836) (by decide +kernel), List.mem_of_getElem? (i := 981) (by decide +kernel), List.mem_of_getElem? (i := 982) (by decide +kernel)⟩
theorem lw_p34 : lw_okq (⟨"SaltToLiarsModel", "goes", "(II)V"⟩, 16) := ⟨⟨by decide +kernel, by decide +kernel⟩, List.mem_of_getElem? (i := 836) (by decide +kernel), List.mem_of_getElem? (i := 988) (by decide +kernel), List.mem_of_getElem? (i := 989) (by decide +kernel)⟩
theorem lw_p35 : lw_okq (⟨"SaltToLiarsModel", "comes", "(IIIII)I"⟩, 16) := ⟨⟨by decide +kernel, by decide +kernel⟩, List.mem_of_getElem? (i := 836) (by decide +kernel), List.mem_of_getElem? (i := 992) (by decide +kernel), List.mem_of_getElem? (i := 993) (by decide +kernel)⟩
theorem lw_p36 : lw_okq (⟨"SaltToLiarsModel", "countsOf", "(II)I"⟩, 16) := ⟨⟨by decide +kernel, by decide +kernel⟩, List.mem_of_getElem? (i := 836) (by decide +kernel), List.mem_of_getElem? (i := 996) (by decide +kernel), List.mem_of_getElem? (i := 997) (by decide +kernel)⟩
theorem lw_p37 : lw_okq (⟨"SaltToLiarsModel", "hushed", "(II)I"⟩, 16) := ⟨⟨by decide +kernel, by decide +kernel⟩, List.mem_of_getElem? (i := 836) (by decide +kernel), List.mem_of_getElem? (i := 1003) (by decide +kernel), List.mem_of_getElem? (i := 1004) (by decide +kernel)⟩
theorem lw_p38 : lw_okq (⟨"SaltToLiarsModel", "steps", "(III)I"⟩, 16) := ⟨⟨by decide +kernel, by decide +kernel⟩, List.mem_of_getElem? (i := 836) (by decide +kernel), List.mem_of_getElem? (i := 1007) (by decide +kernel), List.mem_of_getElem? (i := 1008) (by decide +kernel)⟩
theorem lw_p39 : lw_okq (⟨"SaltToLiarsModel", "drawn", "(IIII)I"⟩, 16) := ⟨⟨by decide +kernel, by decide +kernel⟩, List.mem_of_getElem? (i := 836) (by decide +kernel), List.mem_of_getElem? (i := 1011) (by decide +kernel), List.mem_of_getElem? (i := 1012) (by decide +kernel)⟩
theorem lw_p40 : lw_okq (⟨"SaltToLiarsModel", "lies", "(I)V"⟩, 16) := ⟨⟨by decide +kernel, by decide +kernel⟩, List.mem_of_getElem? (i := 836) (by decide +kernel), List.mem_of_getElem? (i := 1015) (by decide +kernel), List.mem_of_getElem? (i := 1016) (by decide +kernel)⟩
theorem lw_p41 : lw_okq (⟨"SaltToLiarsModel", "isSo", "(II)Z"⟩, 16) := ⟨⟨by decide +kernel, by decide +kernel⟩, List.mem_of_getElem? (i := 836) (by decide +kernel), List.mem_of_getElem? (i := 1039) (by decide +kernel), List.mem_of_getElem? (i := 1040) (by decide +kernel)⟩
theorem lw_p42 : lw_okq (⟨"SaltToLiarsModel", "leads", "(II)V"⟩, 16) := ⟨⟨by decide +kernel, by decide +kernel⟩, List.mem_of_getElem? (i := 836) (by decide +kernel), List.mem_of_getElem? (i := 1060) (by decide +kernel), List.mem_of_getElem? (i := 1061) (by decide +kernel)⟩
theorem lw_p43 : lw_okq (⟨"SaltToLiarsModel", "has", "(IIIIII)I"⟩, 16) := ⟨⟨by decide +kernel, by decide +kernel⟩, List.mem_of_getElem? (i := 836) (by decide +kernel), List.mem_of_getElem? (i := 1075) (by decide +kernel), List.mem_of_getElem? (i := 1076) (by decide +kernel)⟩
def lw_privs_3 : List (MethodName × Nat) := [(⟨"SaltToLiarsModel", "counts", "(II)I"⟩, 16), (⟨"SaltToLiarsModel", "keeps", "()V"⟩, 16), (⟨"SaltToLiarsModel", "goes", "(II)V"⟩, 16), (⟨"SaltToLiarsModel", "comes", "(IIIII)I"⟩, 16), (⟨"SaltToLiarsModel", "countsOf", "(II)I"⟩, 16), (⟨"SaltToLiarsModel", "hushed", "(II)I"⟩, 16), (⟨"SaltToLiarsModel", "steps", "(III)I"⟩, 16), (⟨"SaltToLiarsModel", "drawn", "(IIII)I"⟩, 16), (⟨"SaltToLiarsModel", "lies", "(I)V"⟩, 16), (⟨"SaltToLiarsModel", "isSo", "(II)Z"⟩, 16), (⟨"SaltToLiarsModel", "leads", "(II)V"⟩, 16), (⟨"SaltToLiarsModel", "has", "(IIIIII)I"⟩, 16)]
theorem lw_r3 : ∀ q ∈ lw_privs_3, lw_okq q := List.forall_mem_cons.mpr ⟨lw_p32, List.forall_mem_cons.mpr ⟨lw_p33, List.forall_mem_cons.mpr ⟨lw_p34, List.forall_mem_cons.mpr ⟨lw_p35, List.forall_mem_cons.mpr ⟨lw_p36, List.forall_mem_cons.mpr ⟨lw_p37, List.forall_mem_cons.mpr ⟨lw_p38, List.forall_mem_cons.mpr ⟨lw_p39, List.forall_mem_cons.mpr ⟨lw_p40, List.forall_mem_cons.mpr ⟨lw_p41, List.forall_mem_cons.mpr ⟨lw_p42, List.forall_mem_cons.mpr ⟨lw_p43, fun _ h => absurd h List.not_mem_nil⟩⟩⟩⟩⟩⟩⟩⟩⟩⟩⟩⟩
def lw_privs : List (MethodName × Nat) := lw_privs_1 ++ (lw_privs_2 ++ (lw_privs_3))
def lw_tbl : List Cond := k2_sels lw_privs ++ tables_1
theorem lw_privs_ok : ∀ q ∈ lw_privs, lw_okq q := by
  show ∀ q ∈ lw_privs_1 ++ (lw_privs_2 ++ (lw_privs_3)), lw_okq q
  exact List.forall_mem_append.mpr ⟨lw_r1, List.forall_mem_append.mpr ⟨lw_r2, lw_r3⟩⟩
def RX0 : String := "SaltToLiars$Evening"
def TX0 : u_T := fun k => match k with
  | 0 => ("SaltToLiars$Evening", "salt", "I", false)
  | 1 => ("SaltToLiars$Evening", "rounds", "I", false)
  | 2 => ("SaltToLiars$Evening", "untruths", "I", false)
  | 3 => ("SaltToLiars$Evening", "trail", "I", false)
  | 4 => ("SaltToLiars$Evening", "undoable", "I", false)
  | 5 => ("SaltToLiars$Evening", "lied", "[I", true)
  | _ => ("SaltToLiars$Evening", "ring", "[LSaltToLiars$Round;", true)
def tyX0 : Nat → FieldType := fun k => match k with
  | 0 => .int
  | 1 => .int
  | 2 => .int
  | 3 => .int
  | 4 => .int
  | 5 => .array .int
  | _ => .array (.object "SaltToLiars$Round")
theorem nmX0 : ∀ a, a < 7 → ∀ b, b < 7 → a ≠ b → (TX0 a).2.1 ≠ (TX0 b).2.1 := by decide +kernel
theorem tyX0_ok : ∀ k, k < 7 → parseFieldDescriptor (TX0 k).2.2.1 = some (tyX0 k) := by decide +kernel
abbrev cX0_init : ByteArray := prog_2_method_1_code
def yX0_init : MethodName := ⟨RX0, "<init>", "()V"⟩
abbrev cX0_begin : ByteArray := prog_2_method_2_code
def yX0_begin : MethodName := ⟨RX0, "begin", "(LSaltToLiars$Table;)V"⟩
abbrev cX0_upcoming : ByteArray := prog_2_method_3_code
def yX0_upcoming : MethodName := ⟨RX0, "upcoming", "()LSaltToLiars$Round;"⟩
abbrev cX0_remembered : ByteArray := prog_2_method_4_code
def yX0_remembered : MethodName := ⟨RX0, "remembered", "()I"⟩
abbrev cX0_past : ByteArray := prog_2_method_5_code
def yX0_past : MethodName := ⟨RX0, "past", "(I)LSaltToLiars$Round;"⟩
abbrev cX0_play : ByteArray := prog_2_method_6_code
def yX0_play : MethodName := ⟨RX0, "play", "(LSaltToLiars$Table;)I"⟩
abbrev cX0_takeBack : ByteArray := prog_2_method_7_code
def yX0_takeBack : MethodName := ⟨RX0, "takeBack", "()V"⟩
abbrev cX0_countLiars : ByteArray := prog_2_method_8_code
def yX0_countLiars : MethodName := ⟨RX0, "countLiars", "(LSaltToLiars$Round;I)V"⟩
abbrev cX0_copy : ByteArray := prog_2_method_9_code
def yX0_copy : MethodName := ⟨RX0, "copy", "(LSaltToLiars$Evening;)V"⟩
def RX1 : String := "SaltToLiars$Feast"
def TX1 : u_T := fun k => match k with
  | 0 => ("SaltToLiars$Feast", "salt", "I", false)
  | 1 => ("SaltToLiars$Feast", "untruths", "I", false)
  | _ => ("SaltToLiars$Feast", "probe", "LSaltToLiars$Round;", true)
def tyX1 : Nat → FieldType := fun k => match k with
  | 0 => .int
  | 1 => .int
  | _ => .object "SaltToLiars$Round"
theorem nmX1 : ∀ a, a < 3 → ∀ b, b < 3 → a ≠ b → (TX1 a).2.1 ≠ (TX1 b).2.1 := by decide +kernel
theorem tyX1_ok : ∀ k, k < 3 → parseFieldDescriptor (TX1 k).2.2.1 = some (tyX1 k) := by decide +kernel
abbrev cX1_init : ByteArray := prog_3_method_1_code
def yX1_init : MethodName := ⟨RX1, "<init>", "()V"⟩
abbrev cX1_hold : ByteArray := prog_3_method_2_code
def yX1_hold : MethodName := ⟨RX1, "hold", "(LSaltToLiars$Table;III)V"⟩
abbrev cX1_drawn : ByteArray := prog_3_method_3_code
def yX1_drawn : MethodName := ⟨RX1, "drawn", "(II)I"⟩
def RX2 : String := "SaltToLiars$Letters"
def TX2 : u_T := fun k => match k with
  | 0 => ("SaltToLiars$Letters", "row", "[I", true)
  | _ => ("SaltToLiars$Letters", "length", "I", false)
def tyX2 : Nat → FieldType := fun k => match k with
  | 0 => .array .int
  | _ => .int
theorem nmX2 : ∀ a, a < 2 → ∀ b, b < 2 → a ≠ b → (TX2 a).2.1 ≠ (TX2 b).2.1 := by decide +kernel
theorem tyX2_ok : ∀ k, k < 2 → parseFieldDescriptor (TX2 k).2.2.1 = some (tyX2 k) := by decide +kernel
abbrev cX2_init : ByteArray := prog_4_method_1_code
def yX2_init : MethodName := ⟨RX2, "<init>", "()V"⟩
abbrev cX2_clear : ByteArray := prog_4_method_2_code
def yX2_clear : MethodName := ⟨RX2, "clear", "()V"⟩
abbrev cX2_add : ByteArray := prog_4_method_3_code
def yX2_add : MethodName := ⟨RX2, "add", "(I)Z"⟩
abbrev cX2_at : ByteArray := prog_4_method_4_code
def yX2_at : MethodName := ⟨RX2, "at", "(I)I"⟩
def RX3 : String := "SaltToLiars$Pact"
def TX3 : u_T := fun k => match k with
  | 0 => ("SaltToLiars$Pact", "steady", "I", false)
  | 1 => ("SaltToLiars$Pact", "firstSteady", "I", false)
  | 2 => ("SaltToLiars$Pact", "who", "[I", true)
  | 3 => ("SaltToLiars$Pact", "topic", "[I", true)
  | 4 => ("SaltToLiars$Pact", "firstHas", "[I", true)
  | 5 => ("SaltToLiars$Pact", "otherHas", "[I", true)
  | _ => ("SaltToLiars$Pact", "probe", "LSaltToLiars$Round;", true)
def tyX3 : Nat → FieldType := fun k => match k with
  | 0 => .int
  | 1 => .int
  | 2 => .array .int
  | 3 => .array .int
  | 4 => .array .int
  | 5 => .array .int
  | _ => .object "SaltToLiars$Round"
theorem nmX3 : ∀ a, a < 7 → ∀ b, b < 7 → a ≠ b → (TX3 a).2.1 ≠ (TX3 b).2.1 := by decide +kernel
theorem tyX3_ok : ∀ k, k < 7 → parseFieldDescriptor (TX3 k).2.2.1 = some (tyX3 k) := by decide +kernel
abbrev cX3_init : ByteArray := prog_5_method_1_code
def yX3_init : MethodName := ⟨RX3, "<init>", "()V"⟩
abbrev cX3_between : ByteArray := prog_5_method_2_code
def yX3_between : MethodName := ⟨RX3, "between", "(IIII)V"⟩
abbrev cX3_weigh : ByteArray := prog_5_method_3_code
def yX3_weigh : MethodName := ⟨RX3, "weigh", "(LSaltToLiars$Table;I)V"⟩
abbrev cX3_tryWay : ByteArray := prog_5_method_4_code
def yX3_tryWay : MethodName := ⟨RX3, "tryWay", "(LSaltToLiars$Table;II)V"⟩
abbrev cX3_lie : ByteArray := prog_5_method_5_code
def yX3_lie : MethodName := ⟨RX3, "lie", "(LSaltToLiars$Table;I)V"⟩
abbrev cX3_gain : ByteArray := prog_5_method_6_code
def yX3_gain : MethodName := ⟨RX3, "gain", "(LSaltToLiars$Table;IIZ)I"⟩
def RX4 : String := "SaltToLiars$Paths"
def TX4 : u_T := fun k => match k with
  | 0 => ("SaltToLiars$Paths", "cost", "[I", false)
  | 1 => ("SaltToLiars$Paths", "next", "[I", false)
  | _ => ("SaltToLiars$Paths", "probe", "LSaltToLiars$Round;", true)
def tyX4 : Nat → FieldType := fun k => match k with
  | 0 => .array .int
  | 1 => .array .int
  | _ => .object "SaltToLiars$Round"
theorem nmX4 : ∀ a, a < 3 → ∀ b, b < 3 → a ≠ b → (TX4 a).2.1 ≠ (TX4 b).2.1 := by decide +kernel
theorem tyX4_ok : ∀ k, k < 3 → parseFieldDescriptor (TX4 k).2.2.1 = some (tyX4 k) := by decide +kernel
abbrev cX4_init : ByteArray := prog_6_method_1_code
def yX4_init : MethodName := ⟨RX4, "<init>", "()V"⟩
abbrev cX4_begin : ByteArray := prog_6_method_2_code
def yX4_begin : MethodName := ⟨RX4, "begin", "(LSaltToLiars$Table;I)V"⟩
abbrev cX4_costOf : ByteArray := prog_6_method_3_code
def yX4_costOf : MethodName := ⟨RX4, "costOf", "(I)I"⟩
abbrev cX4_goOneRound : ByteArray := prog_6_method_4_code
def yX4_goOneRound : MethodName := ⟨RX4, "goOneRound", "(LSaltToLiars$Table;)V"⟩
abbrev cX4_hear : ByteArray := prog_6_method_5_code
def yX4_hear : MethodName := ⟨RX4, "hear", "(IIZ)V"⟩
abbrev cX4_spread : ByteArray := prog_6_method_6_code
def yX4_spread : MethodName := ⟨RX4, "spread", "(LSaltToLiars$Table;)V"⟩
def RX5 : String := "SaltToLiars$Reader"
def TX5 : u_T := fun k => match k with
  | 0 => ("SaltToLiars$Reader", "numbers", "[I", true)
  | _ => ("SaltToLiars$Reader", "place", "I", false)
def tyX5 : Nat → FieldType := fun k => match k with
  | 0 => .array .int
  | _ => .int
theorem nmX5 : ∀ a, a < 2 → ∀ b, b < 2 → a ≠ b → (TX5 a).2.1 ≠ (TX5 b).2.1 := by decide +kernel
theorem tyX5_ok : ∀ k, k < 2 → parseFieldDescriptor (TX5 k).2.2.1 = some (tyX5 k) := by decide +kernel
abbrev cX5_init : ByteArray := prog_7_method_1_code
def yX5_init : MethodName := ⟨RX5, "<init>", "()V"⟩
abbrev cX5_read : ByteArray := prog_7_method_2_code
def yX5_read : MethodName := ⟨RX5, "read", "(LSaltToLiars$Letters;LSaltToLiars$Table;)I"⟩
abbrev cX5_howMany : ByteArray := prog_7_method_3_code
def yX5_howMany : MethodName := ⟨RX5, "howMany", "(I)I"⟩
abbrev cX5_readNumbers : ByteArray := prog_7_method_4_code
def yX5_readNumbers : MethodName := ⟨RX5, "readNumbers", "(LSaltToLiars$Letters;I)Z"⟩
abbrev cX5_readNumber : ByteArray := prog_7_method_5_code
def yX5_readNumber : MethodName := ⟨RX5, "readNumber", "(LSaltToLiars$Letters;I)Z"⟩
abbrev cX5_isFigure : ByteArray := prog_7_method_6_code
def yX5_isFigure : MethodName := ⟨RX5, "isFigure", "(I)Z"⟩
def RX6 : String := "SaltToLiars$Round"
def TX6 : u_T := fun k => match k with
  | 0 => ("SaltToLiars$Round", "who", "[I", true)
  | 1 => ("SaltToLiars$Round", "topic", "[I", true)
  | 2 => ("SaltToLiars$Round", "said", "[Z", true)
  | 3 => ("SaltToLiars$Round", "spoke", "I", false)
  | 4 => ("SaltToLiars$Round", "from", "I", false)
  | 5 => ("SaltToLiars$Round", "to", "I", false)
  | 6 => ("SaltToLiars$Round", "trailBefore", "I", false)
  | _ => ("SaltToLiars$Round", "liars", "I", false)
def tyX6 : Nat → FieldType := fun k => match k with
  | 0 => .array .int
  | 1 => .array .int
  | 2 => .array .boolean
  | 3 => .int
  | 4 => .int
  | 5 => .int
  | 6 => .int
  | _ => .int
theorem nmX6 : ∀ a, a < 8 → ∀ b, b < 8 → a ≠ b → (TX6 a).2.1 ≠ (TX6 b).2.1 := by decide +kernel
theorem tyX6_ok : ∀ k, k < 8 → parseFieldDescriptor (TX6 k).2.2.1 = some (tyX6 k) := by decide +kernel
abbrev cX6_init : ByteArray := prog_8_method_1_code
def yX6_init : MethodName := ⟨RX6, "<init>", "()V"⟩
abbrev cX6_clear : ByteArray := prog_8_method_2_code
def yX6_clear : MethodName := ⟨RX6, "clear", "()V"⟩
abbrev cX6_add : ByteArray := prog_8_method_3_code
def yX6_add : MethodName := ⟨RX6, "add", "(IIZ)V"⟩
abbrev cX6_isSpeaker : ByteArray := prog_8_method_4_code
def yX6_isSpeaker : MethodName := ⟨RX6, "isSpeaker", "(I)Z"⟩
abbrev cX6_isUntruth : ByteArray := prog_8_method_5_code
def yX6_isUntruth : MethodName := ⟨RX6, "isUntruth", "(II)Z"⟩
abbrev cX6_tally : ByteArray := prog_8_method_6_code
def yX6_tally : MethodName := ⟨RX6, "tally", "(LSaltToLiars$Table;II)I"⟩
abbrev cX6_copy : ByteArray := prog_8_method_7_code
def yX6_copy : MethodName := ⟨RX6, "copy", "(LSaltToLiars$Round;)V"⟩
def RX7 : String := "SaltToLiars$Sayings"
def TX7 : u_T := fun k => match k with
  | 0 => ("SaltToLiars$Sayings", "size", "I", false)
  | 1 => ("SaltToLiars$Sayings", "who", "[I", true)
  | _ => ("SaltToLiars$Sayings", "said", "[Z", true)
def tyX7 : Nat → FieldType := fun k => match k with
  | 0 => .int
  | 1 => .array .int
  | _ => .array .boolean
theorem nmX7 : ∀ a, a < 3 → ∀ b, b < 3 → a ≠ b → (TX7 a).2.1 ≠ (TX7 b).2.1 := by decide +kernel
theorem tyX7_ok : ∀ k, k < 3 → parseFieldDescriptor (TX7 k).2.2.1 = some (tyX7 k) := by decide +kernel
abbrev cX7_init : ByteArray := prog_9_method_1_code
def yX7_init : MethodName := ⟨RX7, "<init>", "()V"⟩
abbrev cX7_clear : ByteArray := prog_9_method_2_code
def yX7_clear : MethodName := ⟨RX7, "clear", "()V"⟩
abbrev cX7_add : ByteArray := prog_9_method_3_code
def yX7_add : MethodName := ⟨RX7, "add", "(IZ)Z"⟩
abbrev cX7_chance : ByteArray := prog_9_method_4_code
def yX7_chance : MethodName := ⟨RX7, "chance", "(LSaltToLiars$Table;Z)J"⟩
abbrev cX7_commonDivisor : ByteArray := prog_9_method_5_code
def yX7_commonDivisor : MethodName := ⟨RX7, "commonDivisor", "(JJ)J"⟩
def RX8 : String := "SaltToLiars$Table"
def TX8 : u_T := fun k => match k with
  | 0 => ("SaltToLiars$Table", "guests", "I", false)
  | 1 => ("SaltToLiars$Table", "things", "I", false)
  | 2 => ("SaltToLiars$Table", "law", "I", false)
  | 3 => ("SaltToLiars$Table", "start", "I", false)
  | 4 => ("SaltToLiars$Table", "truths", "I", false)
  | 5 => ("SaltToLiars$Table", "kind", "[I", true)
  | 6 => ("SaltToLiars$Table", "honesty", "[I", true)
  | 7 => ("SaltToLiars$Table", "known", "[I", true)
  | _ => ("SaltToLiars$Table", "heft", "[I", true)
def tyX8 : Nat → FieldType := fun k => match k with
  | 0 => .int
  | 1 => .int
  | 2 => .int
  | 3 => .int
  | 4 => .int
  | 5 => .array .int
  | 6 => .array .int
  | 7 => .array .int
  | _ => .array .int
theorem nmX8 : ∀ a, a < 9 → ∀ b, b < 9 → a ≠ b → (TX8 a).2.1 ≠ (TX8 b).2.1 := by decide +kernel
theorem tyX8_ok : ∀ k, k < 9 → parseFieldDescriptor (TX8 k).2.2.1 = some (tyX8 k) := by decide +kernel
abbrev cX8_init : ByteArray := prog_10_method_1_code
def yX8_init : MethodName := ⟨RX8, "<init>", "()V"⟩
abbrev cX8_clear : ByteArray := prog_10_method_2_code
def yX8_clear : MethodName := ⟨RX8, "clear", "()V"⟩
abbrev cX8_take : ByteArray := prog_10_method_3_code
def yX8_take : MethodName := ⟨RX8, "take", "(I[I)Z"⟩
abbrev cX8_takeGuest : ByteArray := prog_10_method_4_code
def yX8_takeGuest : MethodName := ⟨RX8, "takeGuest", "(III)Z"⟩
abbrev cX8_takeThing : ByteArray := prog_10_method_5_code
def yX8_takeThing : MethodName := ⟨RX8, "takeThing", "(II)Z"⟩
abbrev cX8_takeLaw : ByteArray := prog_10_method_6_code
def yX8_takeLaw : MethodName := ⟨RX8, "takeLaw", "(I)Z"⟩
abbrev cX8_takeStart : ByteArray := prog_10_method_7_code
def yX8_takeStart : MethodName := ⟨RX8, "takeStart", "(I)Z"⟩
abbrev cX8_canBeLaid : ByteArray := prog_10_method_8_code
def yX8_canBeLaid : MethodName := ⟨RX8, "canBeLaid", "()Z"⟩
abbrev cX8_hasGuest : ByteArray := prog_10_method_9_code
def yX8_hasGuest : MethodName := ⟨RX8, "hasGuest", "(I)Z"⟩
abbrev cX8_hasThing : ByteArray := prog_10_method_10_code
def yX8_hasThing : MethodName := ⟨RX8, "hasThing", "(I)Z"⟩
abbrev cX8_allThings : ByteArray := prog_10_method_11_code
def yX8_allThings : MethodName := ⟨RX8, "allThings", "()I"⟩
abbrev cX8_isSo : ByteArray := prog_10_method_12_code
def yX8_isSo : MethodName := ⟨RX8, "isSo", "(II)Z"⟩
abbrev cX8_knows : ByteArray := prog_10_method_13_code
def yX8_knows : MethodName := ⟨RX8, "knows", "(II)Z"⟩
abbrev cX8_knownBy : ByteArray := prog_10_method_14_code
def yX8_knownBy : MethodName := ⟨RX8, "knownBy", "(I)I"⟩
abbrev cX8_tally : ByteArray := prog_10_method_15_code
def yX8_tally : MethodName := ⟨RX8, "tally", "(II)I"⟩
abbrev cX8_remainder : ByteArray := prog_10_method_16_code
def yX8_remainder : MethodName := ⟨RX8, "remainder", "(II)I"⟩
abbrev cX8_upward : ByteArray := prog_10_method_17_code
def yX8_upward : MethodName := ⟨RX8, "upward", "(II)I"⟩
abbrev cX8_apart : ByteArray := prog_10_method_18_code
def yX8_apart : MethodName := ⟨RX8, "apart", "(II)I"⟩
abbrev cX8_shorterWay : ByteArray := prog_10_method_19_code
def yX8_shorterWay : MethodName := ⟨RX8, "shorterWay", "(II)I"⟩
abbrev cX8_landing : ByteArray := prog_10_method_20_code
def yX8_landing : MethodName := ⟨RX8, "landing", "(IIILSaltToLiars$Round;)I"⟩
abbrev cX8_pulled : ByteArray := prog_10_method_21_code
def yX8_pulled : MethodName := ⟨RX8, "pulled", "(IIII)I"⟩
abbrev cX8_towardDeaf : ByteArray := prog_10_method_22_code
def yX8_towardDeaf : MethodName := ⟨RX8, "towardDeaf", "(ILSaltToLiars$Round;)I"⟩
def RX9 : String := "SaltToLiars$Ways"
def TX9 : u_T := fun k => match k with
  | 0 => ("SaltToLiars$Ways", "fitting", "I", false)
  | 1 => ("SaltToLiars$Ways", "lowest", "I", false)
  | 2 => ("SaltToLiars$Ways", "alwaysSo", "I", false)
  | 3 => ("SaltToLiars$Ways", "neverSo", "I", false)
  | 4 => ("SaltToLiars$Ways", "question", "I", false)
  | 5 => ("SaltToLiars$Ways", "worst", "I", false)
  | 6 => ("SaltToLiars$Ways", "fittingWhereSo", "[I", true)
  | _ => ("SaltToLiars$Ways", "probe", "LSaltToLiars$Round;", true)
def tyX9 : Nat → FieldType := fun k => match k with
  | 0 => .int
  | 1 => .int
  | 2 => .int
  | 3 => .int
  | 4 => .int
  | 5 => .int
  | 6 => .array .int
  | _ => .object "SaltToLiars$Round"
theorem nmX9 : ∀ a, a < 8 → ∀ b, b < 8 → a ≠ b → (TX9 a).2.1 ≠ (TX9 b).2.1 := by decide +kernel
theorem tyX9_ok : ∀ k, k < 8 → parseFieldDescriptor (TX9 k).2.2.1 = some (tyX9 k) := by decide +kernel
abbrev cX9_init : ByteArray := prog_11_method_1_code
def yX9_init : MethodName := ⟨RX9, "<init>", "()V"⟩
abbrev cX9_sift : ByteArray := prog_11_method_2_code
def yX9_sift : MethodName := ⟨RX9, "sift", "(LSaltToLiars$Table;LSaltToLiars$Evening;)V"⟩
abbrev cX9_admit : ByteArray := prog_11_method_3_code
def yX9_admit : MethodName := ⟨RX9, "admit", "(LSaltToLiars$Table;I)V"⟩
abbrev cX9_explains : ByteArray := prog_11_method_4_code
def yX9_explains : MethodName := ⟨RX9, "explains", "(LSaltToLiars$Table;LSaltToLiars$Evening;II)Z"⟩
abbrev cX9_possibleLaws : ByteArray := prog_11_method_5_code
def yX9_possibleLaws : MethodName := ⟨RX9, "possibleLaws", "(LSaltToLiars$Table;LSaltToLiars$Evening;)I"⟩
abbrev cX9_findQuestion : ByteArray := prog_11_method_6_code
def yX9_findQuestion : MethodName := ⟨RX9, "findQuestion", "(LSaltToLiars$Table;I)V"⟩
abbrev cX9_mostAlike : ByteArray := prog_11_method_7_code
def yX9_mostAlike : MethodName := ⟨RX9, "mostAlike", "(LSaltToLiars$Table;III)I"⟩
def RX10 : String := "SaltToLiars"
def TX10 : u_T := fun k => match k with
  | 0 => ("SaltToLiars", "text", "LSaltToLiars$Letters;", true)
  | 1 => ("SaltToLiars", "reader", "LSaltToLiars$Reader;", true)
  | 2 => ("SaltToLiars", "evening", "LSaltToLiars$Evening;", true)
  | 3 => ("SaltToLiars", "kept", "[LSaltToLiars$Evening;", true)
  | 4 => ("SaltToLiars", "ways", "LSaltToLiars$Ways;", true)
  | 5 => ("SaltToLiars", "paths", "LSaltToLiars$Paths;", true)
  | 6 => ("SaltToLiars", "pact", "LSaltToLiars$Pact;", true)
  | 7 => ("SaltToLiars", "told", "LSaltToLiars$Sayings;", true)
  | 8 => ("SaltToLiars", "feast", "LSaltToLiars$Feast;", true)
  | 9 => ("SaltToLiars", "table", "LSaltToLiars$Table;", false)
  | 10 => ("SaltToLiars", "draft", "LSaltToLiars$Table;", false)
  | _ => ("SaltToLiars", "keptNow", "I", false)
def tyX10 : Nat → FieldType := fun k => match k with
  | 0 => .object "SaltToLiars$Letters"
  | 1 => .object "SaltToLiars$Reader"
  | 2 => .object "SaltToLiars$Evening"
  | 3 => .array (.object "SaltToLiars$Evening")
  | 4 => .object "SaltToLiars$Ways"
  | 5 => .object "SaltToLiars$Paths"
  | 6 => .object "SaltToLiars$Pact"
  | 7 => .object "SaltToLiars$Sayings"
  | 8 => .object "SaltToLiars$Feast"
  | 9 => .object "SaltToLiars$Table"
  | 10 => .object "SaltToLiars$Table"
  | _ => .int
theorem nmX10 : ∀ a, a < 12 → ∀ b, b < 12 → a ≠ b → (TX10 a).2.1 ≠ (TX10 b).2.1 := by decide +kernel
theorem tyX10_ok : ∀ k, k < 12 → parseFieldDescriptor (TX10 k).2.2.1 = some (tyX10 k) := by decide +kernel
abbrev cX10_init : ByteArray := prog_1_method_1_code
def yX10_init : MethodName := ⟨RX10, "<init>", "()V"⟩
abbrev cX10_write : ByteArray := prog_1_method_2_code
def yX10_write : MethodName := ⟨RX10, "write", "(I)I"⟩
abbrev cX10_wipe : ByteArray := prog_1_method_3_code
def yX10_wipe : MethodName := ⟨RX10, "wipe", "()I"⟩
abbrev cX10_fault : ByteArray := prog_1_method_4_code
def yX10_fault : MethodName := ⟨RX10, "fault", "()I"⟩
abbrev cX10_lay : ByteArray := prog_1_method_5_code
def yX10_lay : MethodName := ⟨RX10, "lay", "()I"⟩
abbrev cX10_guest : ByteArray := prog_1_method_6_code
def yX10_guest : MethodName := ⟨RX10, "guest", "(II)I"⟩
abbrev cX10_thing : ByteArray := prog_1_method_7_code
def yX10_thing : MethodName := ⟨RX10, "thing", "(II)I"⟩
abbrev cX10_weight : ByteArray := prog_1_method_8_code
def yX10_weight : MethodName := ⟨RX10, "weight", "(II)I"⟩
abbrev cX10_say : ByteArray := prog_1_method_9_code
def yX10_say : MethodName := ⟨RX10, "say", "(IIZ)I"⟩
abbrev cX10_sayBoth : ByteArray := prog_1_method_10_code
def yX10_sayBoth : MethodName := ⟨RX10, "sayBoth", "(IIZIIZ)I"⟩
abbrev cX10_hush : ByteArray := prog_1_method_11_code
def yX10_hush : MethodName := ⟨RX10, "hush", "()I"⟩
abbrev cX10_undo : ByteArray := prog_1_method_12_code
def yX10_undo : MethodName := ⟨RX10, "undo", "()I"⟩
abbrev cX10_went : ByteArray := prog_1_method_13_code
def yX10_went : MethodName := ⟨RX10, "went", "(II)I"⟩
abbrev cX10_fits : ByteArray := prog_1_method_14_code
def yX10_fits : MethodName := ⟨RX10, "fits", "(I)I"⟩
abbrev cX10_sure : ByteArray := prog_1_method_15_code
def yX10_sure : MethodName := ⟨RX10, "sure", "(Z)I"⟩
abbrev cX10_laws : ByteArray := prog_1_method_16_code
def yX10_laws : MethodName := ⟨RX10, "laws", "()I"⟩
abbrev cX10_ask : ByteArray := prog_1_method_17_code
def yX10_ask : MethodName := ⟨RX10, "ask", "(I)I"⟩
abbrev cX10_fewest : ByteArray := prog_1_method_18_code
def yX10_fewest : MethodName := ⟨RX10, "fewest", "(II)I"⟩
abbrev cX10_story : ByteArray := prog_1_method_19_code
def yX10_story : MethodName := ⟨RX10, "story", "(II)I"⟩
abbrev cX10_rests : ByteArray := prog_1_method_20_code
def yX10_rests : MethodName := ⟨RX10, "rests", "(IIIII)I"⟩
abbrev cX10_tell : ByteArray := prog_1_method_21_code
def yX10_tell : MethodName := ⟨RX10, "tell", "(IZ)I"⟩
abbrev cX10_forget : ByteArray := prog_1_method_22_code
def yX10_forget : MethodName := ⟨RX10, "forget", "()I"⟩
abbrev cX10_believe : ByteArray := prog_1_method_23_code
def yX10_believe : MethodName := ⟨RX10, "believe", "(I)J"⟩
abbrev cX10_trail : ByteArray := prog_1_method_24_code
def yX10_trail : MethodName := ⟨RX10, "trail", "()I"⟩
abbrev cX10_dinner : ByteArray := prog_1_method_25_code
def yX10_dinner : MethodName := ⟨RX10, "dinner", "(III)I"⟩
abbrev cX10_keep : ByteArray := prog_1_method_26_code
def yX10_keep : MethodName := ⟨RX10, "keep", "()I"⟩
abbrev cX10_back : ByteArray := prog_1_method_27_code
def yX10_back : MethodName := ⟨RX10, "back", "()I"⟩
abbrev cX10_count : ByteArray := prog_1_method_28_code
def yX10_count : MethodName := ⟨RX10, "count", "(I)I"⟩
abbrev cX10_arePair : ByteArray := prog_1_method_29_code
def yX10_arePair : MethodName := ⟨RX10, "arePair", "(II)Z"⟩
abbrev cX10_takeDraft : ByteArray := prog_1_method_30_code
def yX10_takeDraft : MethodName := ⟨RX10, "takeDraft", "()V"⟩
def RX11 : String := "SaltToLiarsModel"
def TX11 : u_T := fun k => match k with
  | 0 => ("SaltToLiarsModel", "text", "[I", true)
  | 1 => ("SaltToLiarsModel", "typed", "I", false)
  | 2 => ("SaltToLiarsModel", "told", "[I", true)
  | 3 => ("SaltToLiarsModel", "draft", "[I", true)
  | 4 => ("SaltToLiarsModel", "s", "[I", true)
  | 5 => ("SaltToLiarsModel", "past", "[I", true)
  | 6 => ("SaltToLiarsModel", "known", "I", false)
  | 7 => ("SaltToLiarsModel", "images", "[I", true)
  | 8 => ("SaltToLiarsModel", "kept", "I", false)
  | 9 => ("SaltToLiarsModel", "sayings", "[I", true)
  | 10 => ("SaltToLiarsModel", "said", "I", false)
  | 11 => ("SaltToLiarsModel", "at", "I", false)
  | 12 => ("SaltToLiarsModel", "ways", "[I", true)
  | 13 => ("SaltToLiarsModel", "sums", "[I", true)
  | 14 => ("SaltToLiarsModel", "behind", "[I", true)
  | _ => ("SaltToLiarsModel", "held", "[I", true)
def tyX11 : Nat → FieldType := fun k => match k with
  | 0 => .array .int
  | 1 => .int
  | 2 => .array .int
  | 3 => .array .int
  | 4 => .array .int
  | 5 => .array .int
  | 6 => .int
  | 7 => .array .int
  | 8 => .int
  | 9 => .array .int
  | 10 => .int
  | 11 => .int
  | 12 => .array .int
  | 13 => .array .int
  | 14 => .array .int
  | _ => .array .int
theorem nmX11 : ∀ a, a < 16 → ∀ b, b < 16 → a ≠ b → (TX11 a).2.1 ≠ (TX11 b).2.1 := by decide +kernel
theorem tyX11_ok : ∀ k, k < 16 → parseFieldDescriptor (TX11 k).2.2.1 = some (tyX11 k) := by decide +kernel
abbrev cX11_init : ByteArray := prog_13_method_1_code
def yX11_init : MethodName := ⟨RX11, "<init>", "()V"⟩
abbrev cX11_in : ByteArray := prog_13_method_3_code
def yX11_in : MethodName := ⟨RX11, "in", "(III)Z"⟩
abbrev cX11_isGuest : ByteArray := prog_13_method_4_code
def yX11_isGuest : MethodName := ⟨RX11, "isGuest", "(I)Z"⟩
abbrev cX11_isThing : ByteArray := prog_13_method_5_code
def yX11_isThing : MethodName := ⟨RX11, "isThing", "(I)Z"⟩
abbrev cX11_ones : ByteArray := prog_13_method_6_code
def yX11_ones : MethodName := ⟨RX11, "ones", "(I)I"⟩
abbrev cX11_write : ByteArray := prog_13_method_7_code
def yX11_write : MethodName := ⟨RX11, "write", "(I)I"⟩
abbrev cX11_wipe : ByteArray := prog_13_method_8_code
def yX11_wipe : MethodName := ⟨RX11, "wipe", "()I"⟩
abbrev cX11_letterAt : ByteArray := prog_13_method_9_code
def yX11_letterAt : MethodName := ⟨RX11, "letterAt", "(I)I"⟩
abbrev cX11_isFigure : ByteArray := prog_13_method_10_code
def yX11_isFigure : MethodName := ⟨RX11, "isFigure", "(I)Z"⟩
abbrev cX11_number : ByteArray := prog_13_method_11_code
def yX11_number : MethodName := ⟨RX11, "number", "(II)I"⟩
abbrev cX11_begins : ByteArray := prog_13_method_12_code
def yX11_begins : MethodName := ⟨RX11, "begins", "()V"⟩
abbrev cX11_guestOf : ByteArray := prog_13_method_13_code
def yX11_guestOf : MethodName := ⟨RX11, "guestOf", "(III)V"⟩
abbrev cX11_thingOf : ByteArray := prog_13_method_14_code
def yX11_thingOf : MethodName := ⟨RX11, "thingOf", "(II)V"⟩
abbrev cX11_readsItem : ByteArray := prog_13_method_15_code
def yX11_readsItem : MethodName := ⟨RX11, "readsItem", "(I)Z"⟩
abbrev cX11_reads : ByteArray := prog_13_method_16_code
def yX11_reads : MethodName := ⟨RX11, "reads", "()I"⟩
abbrev cX11_fault : ByteArray := prog_13_method_17_code
def yX11_fault : MethodName := ⟨RX11, "fault", "()I"⟩
abbrev cX11_lays : ByteArray := prog_13_method_18_code
def yX11_lays : MethodName := ⟨RX11, "lays", "()V"⟩
abbrev cX11_lay : ByteArray := prog_13_method_19_code
def yX11_lay : MethodName := ⟨RX11, "lay", "()I"⟩
abbrev cX11_up : ByteArray := prog_13_method_20_code
def yX11_up : MethodName := ⟨RX11, "up", "(II)I"⟩
abbrev cX11_far : ByteArray := prog_13_method_21_code
def yX11_far : MethodName := ⟨RX11, "far", "(II)I"⟩
abbrev cX11_guest : ByteArray := prog_13_method_22_code
def yX11_guest : MethodName := ⟨RX11, "guest", "(II)I"⟩
abbrev cX11_thing : ByteArray := prog_13_method_23_code
def yX11_thing : MethodName := ⟨RX11, "thing", "(II)I"⟩
abbrev cX11_counts : ByteArray := prog_13_method_24_code
def yX11_counts : MethodName := ⟨RX11, "counts", "(II)I"⟩
abbrev cX11_weight : ByteArray := prog_13_method_25_code
def yX11_weight : MethodName := ⟨RX11, "weight", "(II)I"⟩
abbrev cX11_steps : ByteArray := prog_13_method_26_code
def yX11_steps : MethodName := ⟨RX11, "steps", "(III)I"⟩
abbrev cX11_drawn : ByteArray := prog_13_method_27_code
def yX11_drawn : MethodName := ⟨RX11, "drawn", "(IIII)I"⟩
abbrev cX11_hushed : ByteArray := prog_13_method_28_code
def yX11_hushed : MethodName := ⟨RX11, "hushed", "(II)I"⟩
abbrev cX11_saying : ByteArray := prog_13_method_29_code
def yX11_saying : MethodName := ⟨RX11, "saying", "(IIZ)I"⟩
abbrev cX11_countsOf : ByteArray := prog_13_method_30_code
def yX11_countsOf : MethodName := ⟨RX11, "countsOf", "(II)I"⟩
abbrev cX11_spokeOf : ByteArray := prog_13_method_31_code
def yX11_spokeOf : MethodName := ⟨RX11, "spokeOf", "(I)I"⟩
abbrev cX11_comes : ByteArray := prog_13_method_32_code
def yX11_comes : MethodName := ⟨RX11, "comes", "(IIIII)I"⟩
abbrev cX11_lies : ByteArray := prog_13_method_33_code
def yX11_lies : MethodName := ⟨RX11, "lies", "(I)V"⟩
abbrev cX11_goes : ByteArray := prog_13_method_34_code
def yX11_goes : MethodName := ⟨RX11, "goes", "(II)V"⟩
abbrev cX11_keeps : ByteArray := prog_13_method_35_code
def yX11_keeps : MethodName := ⟨RX11, "keeps", "()V"⟩
abbrev cX11_say : ByteArray := prog_13_method_36_code
def yX11_say : MethodName := ⟨RX11, "say", "(IIZ)I"⟩
abbrev cX11_sayBoth : ByteArray := prog_13_method_37_code
def yX11_sayBoth : MethodName := ⟨RX11, "sayBoth", "(IIZIIZ)I"⟩
abbrev cX11_hush : ByteArray := prog_13_method_38_code
def yX11_hush : MethodName := ⟨RX11, "hush", "()I"⟩
abbrev cX11_undo : ByteArray := prog_13_method_39_code
def yX11_undo : MethodName := ⟨RX11, "undo", "()I"⟩
abbrev cX11_went : ByteArray := prog_13_method_40_code
def yX11_went : MethodName := ⟨RX11, "went", "(II)I"⟩
abbrev cX11_isSo : ByteArray := prog_13_method_41_code
def yX11_isSo : MethodName := ⟨RX11, "isSo", "(II)Z"⟩
abbrev cX11_fits : ByteArray := prog_13_method_42_code
def yX11_fits : MethodName := ⟨RX11, "fits", "(I)I"⟩
abbrev cX11_sure : ByteArray := prog_13_method_43_code
def yX11_sure : MethodName := ⟨RX11, "sure", "(Z)I"⟩
abbrev cX11_laws : ByteArray := prog_13_method_44_code
def yX11_laws : MethodName := ⟨RX11, "laws", "()I"⟩
abbrev cX11_ask : ByteArray := prog_13_method_45_code
def yX11_ask : MethodName := ⟨RX11, "ask", "(I)I"⟩
abbrev cX11_leads : ByteArray := prog_13_method_46_code
def yX11_leads : MethodName := ⟨RX11, "leads", "(II)V"⟩
abbrev cX11_fewest : ByteArray := prog_13_method_47_code
def yX11_fewest : MethodName := ⟨RX11, "fewest", "(II)I"⟩
abbrev cX11_story : ByteArray := prog_13_method_48_code
def yX11_story : MethodName := ⟨RX11, "story", "(II)I"⟩
abbrev cX11_has : ByteArray := prog_13_method_49_code
def yX11_has : MethodName := ⟨RX11, "has", "(IIIIII)I"⟩
abbrev cX11_rests : ByteArray := prog_13_method_50_code
def yX11_rests : MethodName := ⟨RX11, "rests", "(IIIII)I"⟩
abbrev cX11_tell : ByteArray := prog_13_method_51_code
def yX11_tell : MethodName := ⟨RX11, "tell", "(IZ)I"⟩
abbrev cX11_forget : ByteArray := prog_13_method_52_code
def yX11_forget : MethodName := ⟨RX11, "forget", "()I"⟩
abbrev cX11_believe : ByteArray := prog_13_method_53_code
def yX11_believe : MethodName := ⟨RX11, "believe", "(I)J"⟩
abbrev cX11_trail : ByteArray := prog_13_method_54_code
def yX11_trail : MethodName := ⟨RX11, "trail", "()I"⟩
abbrev cX11_dinner : ByteArray := prog_13_method_55_code
def yX11_dinner : MethodName := ⟨RX11, "dinner", "(III)I"⟩
abbrev cX11_keep : ByteArray := prog_13_method_56_code
def yX11_keep : MethodName := ⟨RX11, "keep", "()I"⟩
abbrev cX11_back : ByteArray := prog_13_method_57_code
def yX11_back : MethodName := ⟨RX11, "back", "()I"⟩
abbrev cX11_count : ByteArray := prog_13_method_58_code
def yX11_count : MethodName := ⟨RX11, "count", "(I)I"⟩
def RJ6 : String := "java/lang/Integer"
def TJ6 : u_T := fun k => match k with
  | _ => ("", "", "", false)
def tyJ6 : Nat → FieldType := fun k => match k with
  | _ => .int
theorem nmJ6 : ∀ a, a < 0 → ∀ b, b < 0 → a ≠ b → (TJ6 a).2.1 ≠ (TJ6 b).2.1 := by decide +kernel
theorem tyJ6_ok : ∀ k, k < 0 → parseFieldDescriptor (TJ6 k).2.2.1 = some (tyJ6 k) := by decide +kernel
abbrev cJ6_bitCount_0f7a4 : ByteArray := prog_14_method_49_code
def yJ6_bitCount_0f7a4 : MethodName := ⟨RJ6, "bitCount", "(I)I"⟩
def RJ9 : String := "java/lang/Math"
def TJ9 : u_T := fun k => match k with
  | _ => ("", "", "", false)
def tyJ9 : Nat → FieldType := fun k => match k with
  | _ => .int
theorem nmJ9 : ∀ a, a < 0 → ∀ b, b < 0 → a ≠ b → (TJ9 a).2.1 ≠ (TJ9 b).2.1 := by decide +kernel
theorem tyJ9_ok : ∀ k, k < 0 → parseFieldDescriptor (TJ9 k).2.2.1 = some (tyJ9 k) := by decide +kernel
abbrev cJ9_floorMod_7cf53 : ByteArray := prog_15_method_50_code
def yJ9_floorMod_7cf53 : MethodName := ⟨RJ9, "floorMod", "(II)I"⟩
abbrev cJ9_abs_0f7a4 : ByteArray := prog_15_method_59_code
def yJ9_abs_0f7a4 : MethodName := ⟨RJ9, "abs", "(I)I"⟩
abbrev cJ9_max_7cf53 : ByteArray := prog_15_method_65_code
def yJ9_max_7cf53 : MethodName := ⟨RJ9, "max", "(II)I"⟩
abbrev cJ9_min_7cf53 : ByteArray := prog_15_method_69_code
def yJ9_min_7cf53 : MethodName := ⟨RJ9, "min", "(II)I"⟩
def RJ0 : String := "java/lang/String"
def TJ0 : u_T := fun k => match k with
  | _ => ("", "", "", false)
def tyJ0 : Nat → FieldType := fun k => match k with
  | _ => .int
theorem nmJ0 : ∀ a, a < 0 → ∀ b, b < 0 → a ≠ b → (TJ0 a).2.1 ≠ (TJ0 b).2.1 := by decide +kernel
theorem tyJ0_ok : ∀ k, k < 0 → parseFieldDescriptor (TJ0 k).2.2.1 = some (tyJ0 k) := by decide +kernel
abbrev cJ0_length_8abf5 : ByteArray := prog_16_method_54_code
def yJ0_length_8abf5 : MethodName := ⟨RJ0, "length", "()I"⟩
abbrev cJ0_charAt_5068e : ByteArray := prog_16_method_56_code
def yJ0_charAt_5068e : MethodName := ⟨RJ0, "charAt", "(I)C"⟩
abbrev cJ0_coder_7d493 : ByteArray := prog_16_method_152_code
def yJ0_coder_7d493 : MethodName := ⟨RJ0, "coder", "()B"⟩
abbrev cJ0_isLatin1_aae02 : ByteArray := prog_16_method_154_code
def yJ0_isLatin1_aae02 : MethodName := ⟨RJ0, "isLatin1", "()Z"⟩
abbrev cJ0_checkIndex_df160 : ByteArray := prog_16_method_155_code
def yJ0_checkIndex_df160 : MethodName := ⟨RJ0, "checkIndex", "(II)V"⟩
def RJ1 : String := "java/lang/StringLatin1"
def TJ1 : u_T := fun k => match k with
  | _ => ("", "", "", false)
def tyJ1 : Nat → FieldType := fun k => match k with
  | _ => .int
theorem nmJ1 : ∀ a, a < 0 → ∀ b, b < 0 → a ≠ b → (TJ1 a).2.1 ≠ (TJ1 b).2.1 := by decide +kernel
theorem tyJ1_ok : ∀ k, k < 0 → parseFieldDescriptor (TJ1 k).2.2.1 = some (tyJ1 k) := by decide +kernel
abbrev cJ1_charAt_3b067 : ByteArray := prog_17_method_2_code
def yJ1_charAt_3b067 : MethodName := ⟨RJ1, "charAt", "([BI)C"⟩
def RJ2 : String := "java/lang/StringUTF16"
def TJ2 : u_T := fun k => match k with
  | _ => ("", "", "", false)
def tyJ2 : Nat → FieldType := fun k => match k with
  | _ => .int
theorem nmJ2 : ∀ a, a < 0 → ∀ b, b < 0 → a ≠ b → (TJ2 a).2.1 ≠ (TJ2 b).2.1 := by decide +kernel
theorem tyJ2_ok : ∀ k, k < 0 → parseFieldDescriptor (TJ2 k).2.2.1 = some (tyJ2 k) := by decide +kernel
abbrev cJ2_getChar_3b067 : ByteArray := prog_18_method_5_code
def yJ2_getChar_3b067 : MethodName := ⟨RJ2, "getChar", "([BI)C"⟩
abbrev cJ2_length_9d52b : ByteArray := prog_18_method_6_code
def yJ2_length_9d52b : MethodName := ⟨RJ2, "length", "([B)I"⟩
abbrev cJ2_charAt_3b067 : ByteArray := prog_18_method_83_code
def yJ2_charAt_3b067 : MethodName := ⟨RJ2, "charAt", "([BI)C"⟩
abbrev cJ2_checkIndex_2214a : ByteArray := prog_18_method_91_code
def yJ2_checkIndex_2214a : MethodName := ⟨RJ2, "checkIndex", "(I[B)V"⟩
def RJ10 : String := "java/lang/System"
def TJ10 : u_T := fun k => match k with
  | _ => ("", "", "", false)
def tyJ10 : Nat → FieldType := fun k => match k with
  | _ => .int
theorem nmJ10 : ∀ a, a < 0 → ∀ b, b < 0 → a ≠ b → (TJ10 a).2.1 ≠ (TJ10 b).2.1 := by decide +kernel
theorem tyJ10_ok : ∀ k, k < 0 → parseFieldDescriptor (TJ10 k).2.2.1 = some (tyJ10 k) := by decide +kernel
def RJ3 : String := "jdk/internal/util/Preconditions"
def TJ3 : u_T := fun k => match k with
  | _ => ("", "", "", false)
def tyJ3 : Nat → FieldType := fun k => match k with
  | _ => .int
theorem nmJ3 : ∀ a, a < 0 → ∀ b, b < 0 → a ≠ b → (TJ3 a).2.1 ≠ (TJ3 b).2.1 := by decide +kernel
theorem tyJ3_ok : ∀ k, k < 0 → parseFieldDescriptor (TJ3 k).2.2.1 = some (tyJ3 k) := by decide +kernel
abbrev cJ3_checkIndex_8e157 : ByteArray := prog_20_method_11_code
def yJ3_checkIndex_8e157 : MethodName := ⟨RJ3, "checkIndex", "(IILjava/util/function/BiFunction;)I"⟩
def RL : String := "SaltToLiarsLaw"
abbrev cL_law : ByteArray := code
def yL_law : MethodName := ⟨RL, "law", "([I)Z"⟩
abbrev vwCl : List vw_C := [(RX0, TX0, 7), (RX1, TX1, 3), (RX2, TX2, 2), (RX3, TX3, 7), (RX4, TX4, 3), (RX5, TX5, 2), (RX6, TX6, 8), (RX7, TX7, 3), (RX8, TX8, 9), (RX9, TX9, 8), (RX10, TX10, 12), (RX11, TX11, 16)]
abbrev MI : Type := MethodName × ByteArray × Nat × Option FieldType × Room
abbrev MI.y (M : MI) : MethodName := M.1
abbrev MI.code (M : MI) : ByteArray := M.2.1
abbrev MI.mL (M : MI) : Nat := M.2.2.1
abbrev MI.ret (M : MI) : Option FieldType := M.2.2.2.1
abbrev MI.rm (M : MI) : Room := M.2.2.2.2
def LT : List Cond := lw_tbl.filter goodWord
theorem LT_in (i : Nat) {w : Cond} (h : lw_tbl[i]? = some w) (hg : goodWord w = true) : w ∈ LT := List.mem_filter.mpr ⟨List.mem_of_getElem? h, hg⟩
theorem LT_good : ∀ w ∈ LT, goodWord w = true := fun _ h => (List.mem_filter.mp h).2
theorem LT_sub : ∀ w ∈ LT, w ∈ lw_tbl := fun _ h => (List.mem_filter.mp h).1
def M_X0_init : MI := (yX0_init, cX0_init, 2, none, ⟨2, 74, 278, 40⟩)
def M_X0_begin : MI := (yX0_begin, cX0_begin, 3, none, ⟨0, 0, 0, 0⟩)
def M_X0_upcoming : MI := (yX0_upcoming, cX0_upcoming, 1, some (FieldType.object "SaltToLiars$Round"), ⟨1, 0, 0, 22⟩)
def M_X0_remembered : MI := (yX0_remembered, cX0_remembered, 1, some FieldType.int, ⟨1, 0, 0, 21⟩)
def M_X0_past : MI := (yX0_past, cX0_past, 2, some (FieldType.object "SaltToLiars$Round"), ⟨1, 0, 0, 22⟩)
def M_X0_play : MI := (yX0_play, cX0_play, 4, some FieldType.int, ⟨4, 0, 0, 97⟩)
def M_X0_takeBack : MI := (yX0_takeBack, cX0_takeBack, 2, none, ⟨2, 0, 0, 42⟩)
def M_X0_countLiars : MI := (yX0_countLiars, cX0_countLiars, 4, none, ⟨0, 0, 0, 0⟩)
def M_X0_copy : MI := (yX0_copy, cX0_copy, 3, none, ⟨1, 0, 0, 40⟩)
def M_X1_init : MI := (yX1_init, cX1_init, 1, none, ⟨2, 4, 14, 40⟩)
def M_X1_hold : MI := (yX1_hold, cX1_hold, 10, none, ⟨4, 0, 0, 97⟩)
def M_X1_drawn : MI := (yX1_drawn, cX1_drawn, 4, some FieldType.int, ⟨0, 0, 0, 0⟩)
def M_X2_init : MI := (yX2_init, cX2_init, 1, none, ⟨1, 1, 200, 20⟩)
def M_X2_clear : MI := (yX2_clear, cX2_clear, 1, none, ⟨0, 0, 0, 0⟩)
def M_X2_add : MI := (yX2_add, cX2_add, 2, some FieldType.boolean, ⟨0, 0, 0, 0⟩)
def M_X2_at : MI := (yX2_at, cX2_at, 2, some FieldType.int, ⟨0, 0, 0, 0⟩)
def M_X3_init : MI := (yX3_init, cX3_init, 1, none, ⟨2, 8, 26, 40⟩)
def M_X3_between : MI := (yX3_between, cX3_between, 5, none, ⟨0, 0, 0, 0⟩)
def M_X3_weigh : MI := (yX3_weigh, cX3_weigh, 4, none, ⟨5, 0, 0, 123⟩)
def M_X3_tryWay : MI := (yX3_tryWay, cX3_tryWay, 7, none, ⟨4, 0, 0, 97⟩)
def M_X3_lie : MI := (yX3_lie, cX3_lie, 3, none, ⟨1, 0, 0, 23⟩)
def M_X3_gain : MI := (yX3_gain, cX3_gain, 5, some FieldType.int, ⟨1, 0, 0, 22⟩)
def M_X4_init : MI := (yX4_init, cX4_init, 1, none, ⟨2, 6, 30, 40⟩)
def M_X4_begin : MI := (yX4_begin, cX4_begin, 4, none, ⟨0, 0, 0, 0⟩)
def M_X4_costOf : MI := (yX4_costOf, cX4_costOf, 2, some FieldType.int, ⟨0, 0, 0, 0⟩)
def M_X4_goOneRound : MI := (yX4_goOneRound, cX4_goOneRound, 4, none, ⟨5, 0, 0, 121⟩)
def M_X4_hear : MI := (yX4_hear, cX4_hear, 4, none, ⟨1, 0, 0, 23⟩)
def M_X4_spread : MI := (yX4_spread, cX4_spread, 5, none, ⟨4, 0, 0, 97⟩)
def M_X5_init : MI := (yX5_init, cX5_init, 1, none, ⟨1, 1, 3, 20⟩)
def M_X5_read : MI := (yX5_read, cX5_read, 6, some FieldType.int, ⟨3, 0, 0, 67⟩)
def M_X5_howMany : MI := (yX5_howMany, cX5_howMany, 1, some FieldType.int, ⟨0, 0, 0, 0⟩)
def M_X5_readNumbers : MI := (yX5_readNumbers, cX5_readNumbers, 4, some FieldType.boolean, ⟨2, 0, 0, 44⟩)
def M_X5_readNumber : MI := (yX5_readNumber, cX5_readNumber, 4, some FieldType.boolean, ⟨1, 0, 0, 21⟩)
def M_X5_isFigure : MI := (yX5_isFigure, cX5_isFigure, 1, some FieldType.boolean, ⟨0, 0, 0, 0⟩)
def M_X6_init : MI := (yX6_init, cX6_init, 1, none, ⟨1, 3, 6, 20⟩)
def M_X6_clear : MI := (yX6_clear, cX6_clear, 1, none, ⟨0, 0, 0, 0⟩)
def M_X6_add : MI := (yX6_add, cX6_add, 4, none, ⟨0, 0, 0, 0⟩)
def M_X6_isSpeaker : MI := (yX6_isSpeaker, cX6_isSpeaker, 2, some FieldType.boolean, ⟨0, 0, 0, 0⟩)
def M_X6_isUntruth : MI := (yX6_isUntruth, cX6_isUntruth, 3, some FieldType.boolean, ⟨0, 0, 0, 0⟩)
def M_X6_tally : MI := (yX6_tally, cX6_tally, 4, some FieldType.int, ⟨1, 0, 0, 22⟩)
def M_X6_copy : MI := (yX6_copy, cX6_copy, 3, none, ⟨0, 0, 0, 0⟩)
def M_X7_init : MI := (yX7_init, cX7_init, 1, none, ⟨1, 2, 16, 20⟩)
def M_X7_clear : MI := (yX7_clear, cX7_clear, 1, none, ⟨0, 0, 0, 0⟩)
def M_X7_add : MI := (yX7_add, cX7_add, 3, some FieldType.boolean, ⟨0, 0, 0, 0⟩)
def M_X7_chance : MI := (yX7_chance, cX7_chance, 11, some FieldType.long, ⟨1, 0, 0, 26⟩)
def M_X7_commonDivisor : MI := (yX7_commonDivisor, cX7_commonDivisor, 7, some FieldType.long, ⟨0, 0, 0, 0⟩)
def M_X8_init : MI := (yX8_init, cX8_init, 1, none, ⟨1, 4, 30, 20⟩)
def M_X8_clear : MI := (yX8_clear, cX8_clear, 1, none, ⟨0, 0, 0, 0⟩)
def M_X8_take : MI := (yX8_take, cX8_take, 3, some FieldType.boolean, ⟨1, 0, 0, 23⟩)
def M_X8_takeGuest : MI := (yX8_takeGuest, cX8_takeGuest, 4, some FieldType.boolean, ⟨0, 0, 0, 0⟩)
def M_X8_takeThing : MI := (yX8_takeThing, cX8_takeThing, 3, some FieldType.boolean, ⟨0, 0, 0, 0⟩)
def M_X8_takeLaw : MI := (yX8_takeLaw, cX8_takeLaw, 2, some FieldType.boolean, ⟨0, 0, 0, 0⟩)
def M_X8_takeStart : MI := (yX8_takeStart, cX8_takeStart, 2, some FieldType.boolean, ⟨0, 0, 0, 0⟩)
def M_X8_canBeLaid : MI := (yX8_canBeLaid, cX8_canBeLaid, 1, some FieldType.boolean, ⟨0, 0, 0, 0⟩)
def M_X8_hasGuest : MI := (yX8_hasGuest, cX8_hasGuest, 2, some FieldType.boolean, ⟨0, 0, 0, 0⟩)
def M_X8_hasThing : MI := (yX8_hasThing, cX8_hasThing, 2, some FieldType.boolean, ⟨0, 0, 0, 0⟩)
def M_X8_allThings : MI := (yX8_allThings, cX8_allThings, 1, some FieldType.int, ⟨0, 0, 0, 0⟩)
def M_X8_isSo : MI := (yX8_isSo, cX8_isSo, 2, some FieldType.boolean, ⟨0, 0, 0, 0⟩)
def M_X8_knows : MI := (yX8_knows, cX8_knows, 3, some FieldType.boolean, ⟨1, 0, 0, 21⟩)
def M_X8_knownBy : MI := (yX8_knownBy, cX8_knownBy, 4, some FieldType.int, ⟨1, 0, 0, 20⟩)
def M_X8_tally : MI := (yX8_tally, cX8_tally, 3, some FieldType.int, ⟨0, 0, 0, 0⟩)
def M_X8_remainder : MI := (yX8_remainder, cX8_remainder, 2, some FieldType.int, ⟨1, 0, 0, 22⟩)
def M_X8_upward : MI := (yX8_upward, cX8_upward, 3, some FieldType.int, ⟨0, 0, 0, 0⟩)
def M_X8_apart : MI := (yX8_apart, cX8_apart, 4, some FieldType.int, ⟨1, 0, 0, 21⟩)
def M_X8_shorterWay : MI := (yX8_shorterWay, cX8_shorterWay, 3, some FieldType.int, ⟨1, 0, 0, 22⟩)
def M_X8_landing : MI := (yX8_landing, cX8_landing, 7, some FieldType.int, ⟨3, 0, 0, 71⟩)
def M_X8_pulled : MI := (yX8_pulled, cX8_pulled, 8, some FieldType.int, ⟨2, 0, 0, 44⟩)
def M_X8_towardDeaf : MI := (yX8_towardDeaf, cX8_towardDeaf, 7, some FieldType.int, ⟨2, 0, 0, 44⟩)
def M_X9_init : MI := (yX9_init, cX9_init, 1, none, ⟨2, 5, 20, 40⟩)
def M_X9_sift : MI := (yX9_sift, cX9_sift, 4, none, ⟨5, 0, 0, 122⟩)
def M_X9_admit : MI := (yX9_admit, cX9_admit, 4, none, ⟨0, 0, 0, 0⟩)
def M_X9_explains : MI := (yX9_explains, cX9_explains, 6, some FieldType.boolean, ⟨4, 0, 0, 97⟩)
def M_X9_possibleLaws : MI := (yX9_possibleLaws, cX9_possibleLaws, 4, some FieldType.int, ⟨5, 0, 0, 122⟩)
def M_X9_findQuestion : MI := (yX9_findQuestion, cX9_findQuestion, 6, none, ⟨5, 0, 0, 124⟩)
def M_X9_mostAlike : MI := (yX9_mostAlike, cX9_mostAlike, 8, some FieldType.int, ⟨4, 0, 0, 97⟩)
def M_X10_init : MI := (yX10_init, cX10_init, 2, none, ⟨5, 270, 1272, 106⟩)
def M_X10_write : MI := (yX10_write, cX10_write, 2, some FieldType.int, ⟨1, 0, 0, 21⟩)
def M_X10_wipe : MI := (yX10_wipe, cX10_wipe, 2, some FieldType.int, ⟨1, 0, 0, 20⟩)
def M_X10_fault : MI := (yX10_fault, cX10_fault, 1, some FieldType.int, ⟨4, 0, 0, 92⟩)
def M_X10_lay : MI := (yX10_lay, cX10_lay, 1, some FieldType.int, ⟨4, 0, 0, 92⟩)
def M_X10_guest : MI := (yX10_guest, cX10_guest, 3, some FieldType.int, ⟨2, 0, 0, 44⟩)
def M_X10_thing : MI := (yX10_thing, cX10_thing, 3, some FieldType.int, ⟨1, 0, 0, 21⟩)
def M_X10_weight : MI := (yX10_weight, cX10_weight, 3, some FieldType.int, ⟨1, 0, 0, 22⟩)
def M_X10_say : MI := (yX10_say, cX10_say, 5, some FieldType.int, ⟨5, 0, 0, 120⟩)
def M_X10_sayBoth : MI := (yX10_sayBoth, cX10_sayBoth, 8, some FieldType.int, ⟨5, 0, 0, 120⟩)
def M_X10_hush : MI := (yX10_hush, cX10_hush, 1, some FieldType.int, ⟨5, 0, 0, 120⟩)
def M_X10_undo : MI := (yX10_undo, cX10_undo, 1, some FieldType.int, ⟨3, 0, 0, 63⟩)
def M_X10_went : MI := (yX10_went, cX10_went, 4, some FieldType.int, ⟨2, 0, 0, 43⟩)
def M_X10_fits : MI := (yX10_fits, cX10_fits, 2, some FieldType.int, ⟨6, 0, 0, 145⟩)
def M_X10_sure : MI := (yX10_sure, cX10_sure, 2, some FieldType.int, ⟨6, 0, 0, 145⟩)
def M_X10_laws : MI := (yX10_laws, cX10_laws, 1, some FieldType.int, ⟨6, 0, 0, 145⟩)
def M_X10_ask : MI := (yX10_ask, cX10_ask, 2, some FieldType.int, ⟨6, 0, 0, 149⟩)
def M_X10_fewest : MI := (yX10_fewest, cX10_fewest, 4, some FieldType.int, ⟨6, 0, 0, 144⟩)
def M_X10_story : MI := (yX10_story, cX10_story, 4, some FieldType.int, ⟨2, 0, 0, 43⟩)
def M_X10_rests : MI := (yX10_rests, cX10_rests, 6, some FieldType.int, ⟨6, 0, 0, 146⟩)
def M_X10_tell : MI := (yX10_tell, cX10_tell, 3, some FieldType.int, ⟨1, 0, 0, 22⟩)
def M_X10_forget : MI := (yX10_forget, cX10_forget, 2, some FieldType.int, ⟨1, 0, 0, 20⟩)
def M_X10_believe : MI := (yX10_believe, cX10_believe, 2, some FieldType.long, ⟨2, 0, 0, 56⟩)
def M_X10_trail : MI := (yX10_trail, cX10_trail, 1, some FieldType.int, ⟨0, 0, 0, 0⟩)
def M_X10_dinner : MI := (yX10_dinner, cX10_dinner, 4, some FieldType.int, ⟨5, 0, 0, 126⟩)
def M_X10_keep : MI := (yX10_keep, cX10_keep, 1, some FieldType.int, ⟨2, 0, 0, 62⟩)
def M_X10_back : MI := (yX10_back, cX10_back, 1, some FieldType.int, ⟨2, 0, 0, 62⟩)
def M_X10_count : MI := (yX10_count, cX10_count, 2, some FieldType.int, ⟨0, 0, 0, 0⟩)
def M_X10_arePair : MI := (yX10_arePair, cX10_arePair, 3, some FieldType.boolean, ⟨1, 0, 0, 21⟩)
def M_X10_takeDraft : MI := (yX10_takeDraft, cX10_takeDraft, 2, none, ⟨1, 0, 0, 22⟩)
def M_X11_init : MI := (yX11_init, cX11_init, 1, none, ⟨1, 11, 818, 24⟩)
def M_X11_in : MI := (yX11_in, cX11_in, 3, some FieldType.boolean, ⟨0, 0, 0, 0⟩)
def M_X11_isGuest : MI := (yX11_isGuest, cX11_isGuest, 2, some FieldType.boolean, ⟨1, 0, 0, 22⟩)
def M_X11_isThing : MI := (yX11_isThing, cX11_isThing, 2, some FieldType.boolean, ⟨1, 0, 0, 22⟩)
def M_X11_ones : MI := (yX11_ones, cX11_ones, 3, some FieldType.int, ⟨0, 0, 0, 0⟩)
def M_X11_write : MI := (yX11_write, cX11_write, 2, some FieldType.int, ⟨1, 0, 0, 22⟩)
def M_X11_wipe : MI := (yX11_wipe, cX11_wipe, 2, some FieldType.int, ⟨0, 0, 0, 0⟩)
def M_X11_letterAt : MI := (yX11_letterAt, cX11_letterAt, 2, some FieldType.int, ⟨0, 0, 0, 0⟩)
def M_X11_isFigure : MI := (yX11_isFigure, cX11_isFigure, 1, some FieldType.boolean, ⟨1, 0, 0, 22⟩)
def M_X11_number : MI := (yX11_number, cX11_number, 5, some FieldType.int, ⟨2, 0, 0, 42⟩)
def M_X11_begins : MI := (yX11_begins, cX11_begins, 2, none, ⟨0, 0, 0, 0⟩)
def M_X11_guestOf : MI := (yX11_guestOf, cX11_guestOf, 5, none, ⟨0, 0, 0, 0⟩)
def M_X11_thingOf : MI := (yX11_thingOf, cX11_thingOf, 4, none, ⟨0, 0, 0, 0⟩)
def M_X11_readsItem : MI := (yX11_readsItem, cX11_readsItem, 5, some FieldType.boolean, ⟨3, 0, 0, 66⟩)
def M_X11_reads : MI := (yX11_reads, cX11_reads, 2, some FieldType.int, ⟨4, 0, 0, 90⟩)
def M_X11_fault : MI := (yX11_fault, cX11_fault, 1, some FieldType.int, ⟨5, 0, 0, 111⟩)
def M_X11_lays : MI := (yX11_lays, cX11_lays, 2, none, ⟨0, 0, 0, 0⟩)
def M_X11_lay : MI := (yX11_lay, cX11_lay, 1, some FieldType.int, ⟨5, 0, 0, 111⟩)
def M_X11_up : MI := (yX11_up, cX11_up, 3, some FieldType.int, ⟨0, 0, 0, 0⟩)
def M_X11_far : MI := (yX11_far, cX11_far, 4, some FieldType.int, ⟨1, 0, 0, 22⟩)
def M_X11_guest : MI := (yX11_guest, cX11_guest, 3, some FieldType.int, ⟨2, 0, 0, 45⟩)
def M_X11_thing : MI := (yX11_thing, cX11_thing, 3, some FieldType.int, ⟨2, 0, 0, 43⟩)
def M_X11_counts : MI := (yX11_counts, cX11_counts, 5, some FieldType.int, ⟨0, 0, 0, 0⟩)
def M_X11_weight : MI := (yX11_weight, cX11_weight, 3, some FieldType.int, ⟨2, 0, 0, 43⟩)
def M_X11_steps : MI := (yX11_steps, cX11_steps, 6, some FieldType.int, ⟨1, 0, 0, 22⟩)
def M_X11_drawn : MI := (yX11_drawn, cX11_drawn, 7, some FieldType.int, ⟨2, 0, 0, 47⟩)
def M_X11_hushed : MI := (yX11_hushed, cX11_hushed, 6, some FieldType.int, ⟨2, 0, 0, 47⟩)
def M_X11_saying : MI := (yX11_saying, cX11_saying, 3, some FieldType.int, ⟨0, 0, 0, 0⟩)
def M_X11_countsOf : MI := (yX11_countsOf, cX11_countsOf, 4, some FieldType.int, ⟨1, 0, 0, 24⟩)
def M_X11_spokeOf : MI := (yX11_spokeOf, cX11_spokeOf, 1, some FieldType.int, ⟨0, 0, 0, 0⟩)
def M_X11_comes : MI := (yX11_comes, cX11_comes, 8, some FieldType.int, ⟨3, 0, 0, 73⟩)
def M_X11_lies : MI := (yX11_lies, cX11_lies, 2, none, ⟨0, 0, 0, 0⟩)
def M_X11_goes : MI := (yX11_goes, cX11_goes, 5, none, ⟨4, 0, 0, 100⟩)
def M_X11_keeps : MI := (yX11_keeps, cX11_keeps, 2, none, ⟨0, 0, 0, 0⟩)
def M_X11_say : MI := (yX11_say, cX11_say, 4, some FieldType.int, ⟨5, 0, 0, 124⟩)
def M_X11_sayBoth : MI := (yX11_sayBoth, cX11_sayBoth, 7, some FieldType.int, ⟨5, 0, 0, 124⟩)
def M_X11_hush : MI := (yX11_hush, cX11_hush, 1, some FieldType.int, ⟨5, 0, 0, 124⟩)
def M_X11_undo : MI := (yX11_undo, cX11_undo, 2, some FieldType.int, ⟨0, 0, 0, 0⟩)
def M_X11_went : MI := (yX11_went, cX11_went, 4, some FieldType.int, ⟨1, 0, 0, 22⟩)
def M_X11_isSo : MI := (yX11_isSo, cX11_isSo, 6, some FieldType.boolean, ⟨4, 0, 0, 100⟩)
def M_X11_fits : MI := (yX11_fits, cX11_fits, 6, some FieldType.int, ⟨5, 0, 0, 125⟩)
def M_X11_sure : MI := (yX11_sure, cX11_sure, 6, some FieldType.int, ⟨5, 0, 0, 125⟩)
def M_X11_laws : MI := (yX11_laws, cX11_laws, 3, some FieldType.int, ⟨5, 0, 0, 125⟩)
def M_X11_ask : MI := (yX11_ask, cX11_ask, 9, some FieldType.int, ⟨6, 0, 0, 150⟩)
def M_X11_leads : MI := (yX11_leads, cX11_leads, 3, none, ⟨0, 0, 0, 0⟩)
def M_X11_fewest : MI := (yX11_fewest, cX11_fewest, 8, some FieldType.int, ⟨4, 0, 0, 100⟩)
def M_X11_story : MI := (yX11_story, cX11_story, 6, some FieldType.int, ⟨1, 0, 0, 22⟩)
def M_X11_has : MI := (yX11_has, cX11_has, 11, some FieldType.int, ⟨4, 0, 0, 100⟩)
def M_X11_rests : MI := (yX11_rests, cX11_rests, 14, some FieldType.int, ⟨5, 0, 0, 130⟩)
def M_X11_tell : MI := (yX11_tell, cX11_tell, 3, some FieldType.int, ⟨2, 0, 0, 43⟩)
def M_X11_forget : MI := (yX11_forget, cX11_forget, 2, some FieldType.int, ⟨0, 0, 0, 0⟩)
def M_X11_believe : MI := (yX11_believe, cX11_believe, 14, some FieldType.long, ⟨1, 0, 0, 22⟩)
def M_X11_trail : MI := (yX11_trail, cX11_trail, 1, some FieldType.int, ⟨0, 0, 0, 0⟩)
def M_X11_dinner : MI := (yX11_dinner, cX11_dinner, 11, some FieldType.int, ⟨5, 0, 0, 124⟩)
def M_X11_keep : MI := (yX11_keep, cX11_keep, 2, some FieldType.int, ⟨0, 0, 0, 0⟩)
def M_X11_back : MI := (yX11_back, cX11_back, 2, some FieldType.int, ⟨0, 0, 0, 0⟩)
def M_X11_count : MI := (yX11_count, cX11_count, 2, some FieldType.int, ⟨0, 0, 0, 0⟩)
def M_J6_bitCount_0f7a4 : MI := (yJ6_bitCount_0f7a4, cJ6_bitCount_0f7a4, 1, some FieldType.int, ⟨0, 0, 0, 0⟩)
def M_J9_floorMod_7cf53 : MI := (yJ9_floorMod_7cf53, cJ9_floorMod_7cf53, 3, some FieldType.int, ⟨0, 0, 0, 0⟩)
def M_J9_abs_0f7a4 : MI := (yJ9_abs_0f7a4, cJ9_abs_0f7a4, 1, some FieldType.int, ⟨0, 0, 0, 0⟩)
def M_J9_max_7cf53 : MI := (yJ9_max_7cf53, cJ9_max_7cf53, 2, some FieldType.int, ⟨0, 0, 0, 0⟩)
def M_J9_min_7cf53 : MI := (yJ9_min_7cf53, cJ9_min_7cf53, 2, some FieldType.int, ⟨0, 0, 0, 0⟩)
def M_J0_length_8abf5 : MI := (yJ0_length_8abf5, cJ0_length_8abf5, 1, some FieldType.int, ⟨1, 0, 0, 20⟩)
def M_J0_charAt_5068e : MI := (yJ0_charAt_5068e, cJ0_charAt_5068e, 2, some FieldType.char, ⟨4, 0, 0, 85⟩)
def M_J0_coder_7d493 : MI := (yJ0_coder_7d493, cJ0_coder_7d493, 1, some FieldType.byte, ⟨0, 0, 0, 0⟩)
def M_J0_isLatin1_aae02 : MI := (yJ0_isLatin1_aae02, cJ0_isLatin1_aae02, 1, some FieldType.boolean, ⟨0, 0, 0, 0⟩)
def M_J0_checkIndex_df160 : MI := (yJ0_checkIndex_df160, cJ0_checkIndex_df160, 2, none, ⟨1, 0, 0, 22⟩)
def M_J1_charAt_3b067 : MI := (yJ1_charAt_3b067, cJ1_charAt_3b067, 2, some FieldType.char, ⟨2, 0, 0, 43⟩)
def M_J2_getChar_3b067 : MI := (yJ2_getChar_3b067, cJ2_getChar_3b067, 2, some FieldType.char, ⟨1, 0, 0, 20⟩)
def M_J2_length_9d52b : MI := (yJ2_length_9d52b, cJ2_length_9d52b, 1, some FieldType.int, ⟨0, 0, 0, 0⟩)
def M_J2_charAt_3b067 : MI := (yJ2_charAt_3b067, cJ2_charAt_3b067, 2, some FieldType.char, ⟨3, 0, 0, 64⟩)
def M_J2_checkIndex_2214a : MI := (yJ2_checkIndex_2214a, cJ2_checkIndex_2214a, 2, none, ⟨2, 0, 0, 43⟩)
def M_J3_checkIndex_8e157 : MI := (yJ3_checkIndex_8e157, cJ3_checkIndex_8e157, 3, some FieldType.int, ⟨0, 0, 0, 0⟩)
def M_L_law : MI := (yL_law, cL_law, 4, some .boolean, room_1)
end
section
/-! ===== THE LAYER: methods over an abstract heap. An address is a small number (0: the script; k ≥ 1: the k-th cell made), a cell is an array of ints, an array of references or an object. ===== -/
abbrev ACell : Type := (Nat × Nat × (Nat → Int32)) ⊕ ((Nat × Nat × (Nat → Option Nat)) ⊕ (Nat × List Value))
abbrev AHp : Type := Nat → Option ACell
/-- an array of ints (t = 0) or booleans (t = 1) of length n -/
abbrev iA (t n : Nat) (f : Nat → Int32) : ACell := .inl (t, n, f)
/-- an array of references (t = 2: rounds, t = 3: evenings) -/
abbrev rA (t n : Nat) (f : Nat → Option Nat) : ACell := .inr (.inl (t, n, f))
/-- an object of the class of that number, with its fields -/
abbrev oB (ci : Nat) (fs : List Value) : ACell := .inr (.inr (ci, fs))
def up (σ : AHp) (k : Nat) (c : ACell) : AHp := fun j => if j = k then some c else σ j
theorem up_self (σ : AHp) (k : Nat) (c : ACell) : up σ k c k = some c := by simp [up]
theorem up_ne (σ : AHp) {k j : Nat} (c : ACell) (h : j ≠ k) : up σ k c j = σ j := by simp [up, h]
/-- the environment: classes, array classes, the script's cell, the last cell that was there before, the text constant's cells -/
abbrev En : Type := va_G × (Nat → ClassId) × Nat × Nat × Nat × Nat
abbrev En.D (E : En) : va_G := E.1
abbrev En.dA (E : En) : Nat → ClassId := E.2.1
abbrev En.b (E : En) : Nat := E.2.2.1
abbrev En.bs (E : En) : Nat := E.2.2.2.1
abbrev En.sk (E : En) : Nat := E.2.2.2.2.1
abbrev En.sv (E : En) : Nat := E.2.2.2.2.2
def ad (E : En) (k : Nat) : Nat := if k = 0 then E.b else E.bs + k
def cv (E : En) : Value → Value
  | .ref k => .ref (ad E k)
  | .float _ => .ref E.sk
  | v => v
theorem cv_cat (E : En) (v : Value) : (cv E v).category = v.category := by cases v <;> rfl
def AE (E : En) : Nat → Prop := fun q => E.bs < q
def tysE (E : En) : List (ClassId × FieldType) := [(E.dA 0, .int), (E.dA 1, .boolean), (E.dA 2, .object RX6), (E.dA 3, .object RX0)]
/-- what the cell k (not the script) is in the machine's heap -/
def cAt (E : En) (k : Nat) (c : ACell) (H : Heap) : Prop := match c with
  | .inl a => H[ad E k]? = some (vp_cell (E.dA a.1) (a.2.1, .inl a.2.2)) ∧ a.1 < 2
  | .inr (.inl a) => H[ad E k]? = some (vp_cell (E.dA a.1) (a.2.1, .inr (.inr (.inr (.inr (fun j => (a.2.2 j).map (ad E))))))) ∧ (a.1 = 2 ∨ a.1 = 3)
  | .inr (.inr o) => va_at E.D vwCl (ad E k, .inr (o.1, o.2.map (cv E))) H
def Wd (E : En) (U : State) (σ : AHp) (H : Heap) : Prop :=
  (∀ k c, k ≠ 0 → σ k = some c → cAt E k c H) ∧ (∀ c, σ 0 = some c → ∃ L xs, c = iA 0 L xs ∧ va_X E.b L xs U H) ∧ (∀ k, k ≠ 0 → σ k = none → H.size ≤ E.bs + k) ∧ E.b ≤ E.bs ∧ E.bs < H.size
/-- the text constant of the class's constructor -/
def tx0 : String := "g0,7,3;g1,9,0;g2,10,5;g3,5,15;g4,8,9;t1,2;t0,1;t1,3;t0,4;a2;"
def tb0 : List Int32 := [103, 48, 44, 55, 44, 51, 59, 103, 49, 44, 57, 44, 48, 59, 103, 50, 44, 49, 48, 44, 53, 59, 103, 51, 44, 53, 44, 49, 53, 59, 103, 52, 44, 56, 44, 57, 59, 116, 49, 44, 50, 59, 116, 48, 44, 49, 59, 116, 49, 44, 51, 59, 116, 48, 44, 52, 59, 97, 50, 59]
def SK (E : En) (U : State) : Prop :=
  vk_S 1 [60] [tb0] (fun _ => E.sk) (fun _ => E.sv) (AE E) U U.heap ∧ vk_R RX10 79 tx0 E.sk U ∧ va_Z "java/lang/String" "COMPACT_STRINGS" "Z" (.int 1) (AE E) U U.heap ∧ va_Zq "jdk/internal/util/Preconditions" "SIOOBE_FORMATTER" "Ljava/util/function/BiFunction;" (AE E) U U.heap
def Kc (E : En) (U : State) : Prop := va_K E.D vwCl (tysE E) U ∧ SK E U
def wsM (M : MI) : List Cond := Cond.code M.y M.code M.mL M.ret :: LT
theorem wsM_LT {M : MI} {w : Cond} (h : w ∈ LT) : w ∈ wsM M := List.mem_cons_of_mem _ h
theorem wsM_in {M M' : MI} (h : Cond.code M'.y M'.code M'.mL M'.ret ∈ LT) : GoodIn (wsM M) (wsM M') := by
  intro w hw
  rcases List.mem_cons.mp hw with rfl | hw
  · exact ⟨wsM_LT h, good_of_word (LT_good _ h)⟩
  · exact ⟨wsM_LT hw, good_of_word (LT_good _ hw)⟩
theorem wsM_inL {M : MI} {ws : List Cond} (h : ∀ w ∈ ws, w ∈ LT) : GoodIn (wsM M) ws := fun w hw => ⟨wsM_LT (h w hw), good_of_word (LT_good _ (h w hw))⟩
/-- locals -/
def lvF (E : En) : Nat → List (Option Value) → List (Nat × Value)
  | _, [] => []
  | i, none :: l => lvF E (i + 1) l
  | i, some v :: l => (i, cv E v) :: lvF E (i + 1) l
theorem mem_lvF {E : En} {q : Nat × Value} : ∀ {ls : List (Option Value)} {i : Nat}, q ∈ lvF E i ls ↔ ∃ j v, ls[j]? = some (some v) ∧ q = (i + j, cv E v) := by
  intro ls
  induction ls with
  | nil => intro i; simp [lvF]
  | cons a l ih =>
    intro i
    cases a with
    | none =>
      simp only [lvF, ih]
      constructor
      · rintro ⟨j, v, h, rfl⟩
        exact ⟨j + 1, v, by simpa using h, by simp; omega⟩
      · rintro ⟨j, v, h, rfl⟩
        cases j with
        | zero => simp at h
        | succ j => exact ⟨j, v, by simpa using h, by simp; omega⟩
    | some w =>
      simp only [lvF, List.mem_cons, ih]
      constructor
      · rintro (rfl | ⟨j, v, h, rfl⟩)
        · exact ⟨0, w, by simp, by simp⟩
        · exact ⟨j + 1, v, by simpa using h, by simp; omega⟩
      · rintro ⟨j, v, h, rfl⟩
        cases j with
        | zero => simp at h; left; simp [h]
        | succ j => right; exact ⟨j, v, by simpa using h, by simp; omega⟩
def LsR (E : En) (ls : List (Option Value)) (lsA : Array Slot) (n : Nat) : Prop := lv_has lsA n (lvF E 0 ls)
theorem LsR.get {E : En} {ls : List (Option Value)} {lsA : Array Slot} {n i : Nat} {v : Value} (h : LsR E ls lsA n) (hi : ls[i]? = some (some v)) : lsA[i]? = some (.val (cv E v)) := h.2.2 (i, cv E v) (mem_lvF.mpr ⟨i, v, hi, by simp⟩)
/-- no long ends at i -/
def okS (ls : List (Option Value)) (i : Nat) : Bool := match i with
  | 0 => true
  | j + 1 => match ls[j]? with
    | some (some (.long _)) => false
    | some (some (.double _)) => false
    | _ => true
theorem okS_cat {ls : List (Option Value)} {i j : Nat} {v : Value} (h : okS ls i = true) (hj : j + 1 = i) (hv : ls[j]? = some (some v)) : ¬ v.category = 2 := by
  subst hj
  simp only [okS, hv] at h
  cases v <;> simp_all [Value.category]
theorem LsR.set1 {E : En} {ls : List (Option Value)} {lsA : Array Slot} {n i : Nat} {v : Value} (hok : okS ls i = true) (h : lv_has lsA n ((i, cv E v) :: (lvF E 0 ls).filter (fun q => !(q.1 == i) && !(q.1 + 1 == i && q.2.category == 2)))) : LsR E (ls.set i (some v)) lsA n := by
  refine ⟨h.1, h.2.1, fun q hq => ?_⟩
  obtain ⟨j, w, hj, rfl⟩ := mem_lvF.mp hq
  simp only [Nat.zero_add]
  by_cases hji : j = i
  · subst hji
    have hw : w = v := by
      rw [List.getElem?_set] at hj
      simp at hj
      obtain ⟨-, h2⟩ := hj
      simpa using h2.symm
    subst hw
    exact h.2.2 _ List.mem_cons_self
  · rw [List.getElem?_set_ne (Ne.symm hji)] at hj
    refine h.2.2 (j, cv E w) (List.mem_cons_of_mem _ (List.mem_filter.mpr ⟨mem_lvF.mpr ⟨j, w, hj, by simp⟩, ?_⟩))
    have hc : ¬ (j + 1 = i ∧ (cv E w).category = 2) := fun hh => okS_cat hok hh.1 hj (by rw [← cv_cat E]; exact hh.2)
    by_cases h1 : j + 1 = i
    · have h2 : ¬ (cv E w).category = 2 := fun q => hc ⟨h1, q⟩
      simp [hji, h2]
    · simp [hji, h1]
theorem LsR.set2 {E : En} {ls : List (Option Value)} {lsA : Array Slot} {n i : Nat} {v : Value} (hok : okS ls i = true) (h : lv_has lsA n ((i, cv E v) :: (lvF E 0 ls).filter (fun q => !(q.1 == i) && (!(q.1 == i + 1) && !(q.1 + 1 == i && q.2.category == 2))))) : LsR E ((ls.set i (some v)).set (i + 1) none) lsA n := by
  refine ⟨h.1, h.2.1, fun q hq => ?_⟩
  obtain ⟨j, w, hj, rfl⟩ := mem_lvF.mp hq
  simp only [Nat.zero_add]
  by_cases hj1 : j = i + 1
  · subst hj1
    rw [List.getElem?_set] at hj
    simp at hj
  rw [List.getElem?_set_ne (Ne.symm hj1)] at hj
  by_cases hji : j = i
  · subst hji
    have hw : w = v := by
      rw [List.getElem?_set] at hj
      simp at hj
      obtain ⟨-, h2⟩ := hj
      simpa using h2.symm
    subst hw
    exact h.2.2 _ List.mem_cons_self
  · rw [List.getElem?_set_ne (Ne.symm hji)] at hj
    refine h.2.2 (j, cv E w) (List.mem_cons_of_mem _ (List.mem_filter.mpr ⟨mem_lvF.mpr ⟨j, w, hj, by simp⟩, ?_⟩))
    have hc : ¬ (j + 1 = i ∧ (cv E w).category = 2) := fun hh => okS_cat hok hh.1 hj (by rw [← cv_cat E]; exact hh.2)
    by_cases h1 : j + 1 = i
    · have h2 : ¬ (cv E w).category = 2 := fun q => hc ⟨h1, q⟩
      simp [hji, hj1, h2]
    · simp [hji, hj1, h1]
/-- what holds of a method's frame -/
def Cx (M : MI) (E : En) (p : Program) (s : State) (m : MethodId) (args : Array Value) (meth : Method) (c : Code) : Prop :=
  p.tables.exec = Jvm.exec ∧ c.code = M.code ∧ meth.sig.returnType = M.ret ∧ c.maxLocals = M.mL ∧ s.vm.findClass M.y.cls = some m.cls ∧ (∀ w ∈ wsM M, w.before args s = true) ∧ meth.locks = false ∧ meth.name = M.y.name ∧ Kc E s
def Qa (E : En) (Q : Option Value → AHp → Prop) : Array Value → State → Outcome → State → Prop := fun _ st o t => ∃ (r : Option Value) (σ : AHp), o = .returned (r.map (cv E)) ∧ Q r σ ∧ Wd E t σ t.heap ∧ va_F (AE E) st t
/-- the judgement: from pc, with these locals, operands and cells, the method returns r and leaves σ', with Q r σ' -/
def Run (M : MI) (pc : Nat) (ls : List (Option Value)) (st : List Value) (σ : AHp) (kc ks : Nat) (Q : Option Value → AHp → Prop) : Prop :=
  ∀ (p : Program) (l : Launch) (e : Env) (s : State) (m : MethodId) (args : Array Value) (below : List Frame) (meth : Method) (c : Code) (E : En) (H : Heap) (locs : List Loc) (cells slots : Nat) (lsA : Array Slot),
    Cx M E p s m args meth c → Wd E s σ H → va_S (AE E) s.heap H locs → LsR E ls lsA M.mL → cells + kc ≤ M.rm.cells → slots + ks ≤ M.rm.slots →
    W p l e M.rm s m args below meth c H locs cells slots (MQ below (Qa E Q) args s M.rm.cells M.rm.slots (AE E)) (F0 m pc lsA (st.map (cv E)))
/-- a method's contract -/
def Ev (M : MI) (av : List Value) (σ : AHp) (Q : Option Value → AHp → Prop) : Prop :=
  ∀ (l : Launch) (E : En), Met l M.y (wsM M) M.rm (va_Pc (av.map (cv E)) (fun U => Wd E U σ U.heap ∧ Kc E U)) (Qa E Q) M.rm.cells M.rm.slots (AE E)
theorem cAt.kept {E : En} {k : Nat} {c : ACell} {H H1 : Heap} (h : cAt E k c H) (hq : H1[ad E k]? = H[ad E k]?) : cAt E k c H1 := by
  rcases c with a | a | o
  · exact ⟨by rw [hq]; exact h.1, h.2⟩
  · exact ⟨by rw [hq]; exact h.1, h.2⟩
  · exact va_at.kept (q := (ad E k, .inr (o.1, o.2.map (cv E)))) h hq
theorem cAt.lt {E : En} {k : Nat} {c : ACell} {H : Heap} (h : cAt E k c H) : ad E k < H.size := by
  rcases c with a | a | o
  · exact (Array.getElem?_eq_some_iff.mp h.1).1
  · exact (Array.getElem?_eq_some_iff.mp h.1).1
  · exact va_at.lt (q := (ad E k, .inr (o.1, o.2.map (cv E)))) h
theorem ad_pos {E : En} {k : Nat} (h : k ≠ 0) : ad E k = E.bs + k := by simp [ad, h]
theorem ad_0 (E : En) : ad E 0 = E.b := by simp [ad]
theorem AE_ad {E : En} {k : Nat} (h : k ≠ 0) : AE E (ad E k) := by
  rw [ad_pos h]
  show E.bs < E.bs + k
  omega
theorem Wd.ne {E : En} {U : State} {σ : AHp} {H : Heap} (h : Wd E U σ H) {i j : Nat} (hj : j ≠ 0) (hij : i ≠ j) : ad E i ≠ ad E j := by
  have hb := h.2.2.2.1
  by_cases hi : i = 0
  · subst hi
    rw [ad_0, ad_pos hj]
    omega
  · rw [ad_pos hi, ad_pos hj]
    omega
/-- a cell is written -/
theorem Wd.put {E : En} {U : State} {σ : AHp} {H H1 : Heap} {k : Nat} {c0 c : ACell} (h : Wd E U σ H) (hk : k ≠ 0) (h0 : σ k = some c0) (hc : cAt E k c H1) (hz : H1.size = H.size) (oq : ∀ q : Nat, q ≠ ad E k → H1[q]? = H[q]?) : Wd E U (up σ k c) H1 := by
  refine ⟨fun i d hi hd => ?_, fun d hd => ?_, fun i hi hn => ?_, h.2.2.2.1, by rw [hz]; exact h.2.2.2.2⟩
  · by_cases hik : i = k
    · subst hik
      rw [up_self] at hd
      cases hd
      exact hc
    · rw [up_ne σ c hik] at hd
      exact (h.1 i d hi hd).kept (oq _ (h.ne hk hik))
  · rw [up_ne σ c (Ne.symm hk)] at hd
    obtain ⟨L, xs, h1, h2⟩ := h.2.1 d hd
    exact ⟨L, xs, h1, h2.kept (oq _ (by rw [← ad_0 E]; exact h.ne hk (Ne.symm hk)))⟩
  · have hik : i ≠ k := by
      rintro rfl
      rw [up_self] at hn
      cases hn
    rw [up_ne σ c hik] at hn
    rw [hz]
    exact h.2.2.1 i hi hn
/-- a cell is made: the next one -/
theorem Wd.new {E : En} {U : State} {σ : AHp} {H H1 : Heap} {k : Nat} {c : ACell} (h : Wd E U σ H) (hk : k ≠ 0) (he : ad E k = H.size) (hc : cAt E k c H1) (hz : H1.size = H.size + 1) (oq : ∀ q : Nat, q < H.size → H1[q]? = H[q]?) : Wd E U (up σ k c) H1 := by
  have hb := h.2.2.2
  rw [ad_pos hk] at he
  refine ⟨fun i d hi hd => ?_, fun d hd => ?_, fun i hi hn => ?_, hb.1, by omega⟩
  · by_cases hik : i = k
    · subst hik
      rw [up_self] at hd
      cases hd
      exact hc
    · rw [up_ne σ c hik] at hd
      exact (h.1 i d hi hd).kept (oq _ (h.1 i d hi hd).lt)
  · rw [up_ne σ c (Ne.symm hk)] at hd
    obtain ⟨L, xs, h1, h2⟩ := h.2.1 d hd
    exact ⟨L, xs, h1, h2.kept (oq _ (by omega))⟩
  · have hik : i ≠ k := by
      rintro rfl
      rw [up_self] at hn
      cases hn
    rw [up_ne σ c hik] at hn
    have := h.2.2.1 i hi hn
    omega
theorem Wd.next {E : En} {U : State} {σ : AHp} {H : Heap} {k : Nat} (h : Wd E U σ H) (hk : k ≠ 0) (hn : σ k = none) (hp : k = 1 ∨ ∃ c, σ (k - 1) = some c) : ad E k = H.size := by
  have h1 := h.2.2.1 k hk hn
  rw [ad_pos hk]
  rcases hp with rfl | ⟨c, hp⟩
  · have := h.2.2.2.2
    omega
  · by_cases h0 : k - 1 = 0
    · have := h.2.2.2.2
      omega
    · have := (h.1 (k - 1) c h0 hp).lt
      rw [ad_pos h0] at this
      omega
theorem Wd.moved {E : En} {u U : State} {σ : AHp} {H : Heap} (hvm : u.vm.Alike U.vm) (h : Wd E u σ H) : Wd E U σ H := by
  refine ⟨h.1, fun c hc => ?_, h.2.2⟩
  obtain ⟨L, xs, h1, h2⟩ := h.2.1 c hc
  exact ⟨L, xs, h1, h2.moved hvm⟩
theorem SK.warm {E : En} {s U : State} {H : Heap} {locs : List Loc} (hS : va_S (AE E) s.heap H locs) (hU : U.heap = H) (hW : s.WarmedH U.vm) (h : SK E s) : SK E U := by
  obtain ⟨h1, h2, h3, h4⟩ := h
  have hq : ∀ a : Nat, a < s.heap.size → ¬ AE E a → U.heap[a]? = s.heap[a]? := fun a ha hn => by rw [hU]; exact hS.2.1 a ha hn
  refine ⟨(h1.moved hW.alike).kept hq, h2.warm hW, ?_, ?_⟩
  · exact (h3.moved hW.alike).kept hq
  · exact (h4.moved hW.alike).kept hq
theorem SK.same {E : En} {s U : State} (hh : U.heap = s.heap) (hv : U.vm = s.vm) (h : SK E s) : SK E U := by
  obtain ⟨h1, h2, h3, h4⟩ := h
  have hal : s.vm.Alike U.vm := by rw [hv]; exact Vm.Alike.refl _
  have hq : ∀ a : Nat, a < s.heap.size → ¬ AE E a → U.heap[a]? = s.heap[a]? := fun a ha hn => by rw [hh]
  exact ⟨(h1.moved hal).kept hq, h2.same hv, (h3.moved hal).kept hq, (h4.moved hal).kept hq⟩
end
section
/-! ===== RULES of the judgement Run: an instruction, a rule ===== -/
def At (M : MI) (pc : Nat) (i : Instr) (len nx : Nat) : Prop := decode M.code pc = .ok (i, len) ∧ pc + len = nx
def AtB (M : MI) (pc : Nat) (i : Int → Instr) (nx tgt : Nat) : Prop := ∃ off : Int, decode M.code pc = .ok (i off, 3) ∧ pc + 3 = nx ∧ (pc : Int) + off = (tgt : Int)
theorem R_iconst {M : MI} {pc nx : Nat} {ls : List (Option Value)} {st : List Value} {σ : AHp} {kc ks : Nat} {Q : Option Value → AHp → Prop} {n : Int} {v : Int32} (h : At M pc (.iconst n) 1 nx) (hv : Int32.ofInt n = v) (k : Run M nx ls (.int v :: st) σ kc ks Q) : Run M pc ls (st) σ kc ks Q := by
  obtain ⟨hd, rfl⟩ := h
  intro p l e s m args below meth c E H locs cells slots lsA C hW hS hL hc hs
  exact lv_iconst C.1 C.2.1 hd hv (k p l e s m args below meth c E H locs cells slots lsA C hW hS hL hc hs)
theorem R_bipush {M : MI} {pc nx : Nat} {ls : List (Option Value)} {st : List Value} {σ : AHp} {kc ks : Nat} {Q : Option Value → AHp → Prop} {n : Int} {v : Int32} (h : At M pc (.bipush n) 2 nx) (hv : (Int8.ofInt n).toInt32 = v) (k : Run M nx ls (.int v :: st) σ kc ks Q) : Run M pc ls (st) σ kc ks Q := by
  obtain ⟨hd, rfl⟩ := h
  intro p l e s m args below meth c E H locs cells slots lsA C hW hS hL hc hs
  exact lv_bipush C.1 C.2.1 hd hv (k p l e s m args below meth c E H locs cells slots lsA C hW hS hL hc hs)
theorem R_sipush {M : MI} {pc nx : Nat} {ls : List (Option Value)} {st : List Value} {σ : AHp} {kc ks : Nat} {Q : Option Value → AHp → Prop} {n : Int} {v : Int32} (h : At M pc (.sipush n) 3 nx) (hv : (Int16.ofInt n).toInt32 = v) (k : Run M nx ls (.int v :: st) σ kc ks Q) : Run M pc ls (st) σ kc ks Q := by
  obtain ⟨hd, rfl⟩ := h
  intro p l e s m args below meth c E H locs cells slots lsA C hW hS hL hc hs
  exact lv_sipush C.1 C.2.1 hd hv (k p l e s m args below meth c E H locs cells slots lsA C hW hS hL hc hs)
theorem R_lconst {M : MI} {pc nx : Nat} {ls : List (Option Value)} {st : List Value} {σ : AHp} {kc ks : Nat} {Q : Option Value → AHp → Prop} {n : Fin 2} {v : Int64} (h : At M pc (.lconst n) 1 nx) (hv : Int64.ofNat (n : Nat) = v) (k : Run M nx ls (.long v :: st) σ kc ks Q) : Run M pc ls (st) σ kc ks Q := by
  obtain ⟨hd, rfl⟩ := h
  intro p l e s m args below meth c E H locs cells slots lsA C hW hS hL hc hs
  exact lv_lconst C.1 C.2.1 hd hv (k p l e s m args below meth c E H locs cells slots lsA C hW hS hL hc hs)
theorem R_iload {M : MI} {pc nx : Nat} {ls : List (Option Value)} {st : List Value} {σ : AHp} {kc ks : Nat} {Q : Option Value → AHp → Prop} {i : Nat} {x : Int32} (h : At M pc (.iload i) 2 nx) (hl : ls[i]? = some (some (.int x))) (k : Run M nx ls (.int x :: st) σ kc ks Q) : Run M pc ls (st) σ kc ks Q := by
  obtain ⟨hd, rfl⟩ := h
  intro p l e s m args below meth c E H locs cells slots lsA C hW hS hL hc hs
  exact lv_iload C.1 C.2.1 hd (LsR.get hL hl) (k p l e s m args below meth c E H locs cells slots lsA C hW hS hL hc hs)
theorem R_iload_n {M : MI} {pc nx : Nat} {ls : List (Option Value)} {st : List Value} {σ : AHp} {kc ks : Nat} {Q : Option Value → AHp → Prop} {i : Fin 4} {x : Int32} (h : At M pc (.iload_n i) 1 nx) (hl : ls[(i : Nat)]? = some (some (.int x))) (k : Run M nx ls (.int x :: st) σ kc ks Q) : Run M pc ls st σ kc ks Q := by
  obtain ⟨hd, rfl⟩ := h
  intro p l e s m args below meth c E H locs cells slots lsA C hW hS hL hc hs
  exact lv_iload_n C.1 C.2.1 hd rfl (LsR.get hL hl) (k p l e s m args below meth c E H locs cells slots lsA C hW hS hL hc hs)
theorem R_lload {M : MI} {pc nx : Nat} {ls : List (Option Value)} {st : List Value} {σ : AHp} {kc ks : Nat} {Q : Option Value → AHp → Prop} {i : Nat} {x : Int64} (h : At M pc (.lload i) 2 nx) (hl : ls[i]? = some (some (.long x))) (k : Run M nx ls (.long x :: st) σ kc ks Q) : Run M pc ls (st) σ kc ks Q := by
  obtain ⟨hd, rfl⟩ := h
  intro p l e s m args below meth c E H locs cells slots lsA C hW hS hL hc hs
  exact lv_lload C.1 C.2.1 hd (LsR.get hL hl) (k p l e s m args below meth c E H locs cells slots lsA C hW hS hL hc hs)
theorem R_lload_n {M : MI} {pc nx : Nat} {ls : List (Option Value)} {st : List Value} {σ : AHp} {kc ks : Nat} {Q : Option Value → AHp → Prop} {i : Fin 4} {x : Int64} (h : At M pc (.lload_n i) 1 nx) (hl : ls[(i : Nat)]? = some (some (.long x))) (k : Run M nx ls (.long x :: st) σ kc ks Q) : Run M pc ls st σ kc ks Q := by
  obtain ⟨hd, rfl⟩ := h
  intro p l e s m args below meth c E H locs cells slots lsA C hW hS hL hc hs
  exact lv_lload_n C.1 C.2.1 hd rfl (LsR.get hL hl) (k p l e s m args below meth c E H locs cells slots lsA C hW hS hL hc hs)
theorem R_aload {M : MI} {pc nx : Nat} {ls : List (Option Value)} {st : List Value} {σ : AHp} {kc ks : Nat} {Q : Option Value → AHp → Prop} {i : Nat} {x : Nat} (h : At M pc (.aload i) 2 nx) (hl : ls[i]? = some (some (.ref x))) (k : Run M nx ls (.ref x :: st) σ kc ks Q) : Run M pc ls (st) σ kc ks Q := by
  obtain ⟨hd, rfl⟩ := h
  intro p l e s m args below meth c E H locs cells slots lsA C hW hS hL hc hs
  exact lv_aload C.1 C.2.1 hd (LsR.get hL hl) (k p l e s m args below meth c E H locs cells slots lsA C hW hS hL hc hs)
theorem R_aload_n {M : MI} {pc nx : Nat} {ls : List (Option Value)} {st : List Value} {σ : AHp} {kc ks : Nat} {Q : Option Value → AHp → Prop} {i : Fin 4} {x : Nat} (h : At M pc (.aload_n i) 1 nx) (hl : ls[(i : Nat)]? = some (some (.ref x))) (k : Run M nx ls (.ref x :: st) σ kc ks Q) : Run M pc ls st σ kc ks Q := by
  obtain ⟨hd, rfl⟩ := h
  intro p l e s m args below meth c E H locs cells slots lsA C hW hS hL hc hs
  exact lv_aload_n C.1 C.2.1 hd rfl (LsR.get hL hl) (k p l e s m args below meth c E H locs cells slots lsA C hW hS hL hc hs)
theorem R_istore {M : MI} {pc nx : Nat} {ls : List (Option Value)} {st : List Value} {σ : AHp} {kc ks : Nat} {Q : Option Value → AHp → Prop} {i : Nat} {x : Int32} {ls' : List (Option Value)} (h : At M pc (.istore i) 2 nx) (hi : Nat.ble (i + 1) M.mL = true) (hok : okS ls i = true) (hl : ls.set i (some (.int x)) = ls') (k : Run M nx ls' st σ kc ks Q) : Run M pc ls (.int x :: st) σ kc ks Q := by
  obtain ⟨hd, rfl⟩ := h
  subst hl
  intro p l e s m args below meth c E H locs cells slots lsA C hW hS hL hc hs
  exact lv_istore C.1 C.2.1 hd hL (Nat.le_of_ble_eq_true hi) rfl fun lsA' hL' => k p l e s m args below meth c E H locs cells slots lsA' C hW hS (LsR.set1 (v := .int x) hok hL') hc hs
theorem R_istore_n {M : MI} {pc nx : Nat} {ls : List (Option Value)} {st : List Value} {σ : AHp} {kc ks : Nat} {Q : Option Value → AHp → Prop} {i : Fin 4} {x : Int32} {ls' : List (Option Value)} (h : At M pc (.istore_n i) 1 nx) (hi : Nat.ble ((i : Nat) + 1) M.mL = true) (hok : okS ls (i : Nat) = true) (hl : ls.set (i : Nat) (some (.int x)) = ls') (k : Run M nx ls' st σ kc ks Q) : Run M pc ls (.int x :: st) σ kc ks Q := by
  obtain ⟨hd, rfl⟩ := h
  subst hl
  intro p l e s m args below meth c E H locs cells slots lsA C hW hS hL hc hs
  exact lv_istore_n C.1 C.2.1 hd rfl hL (Nat.le_of_ble_eq_true hi) rfl fun lsA' hL' => k p l e s m args below meth c E H locs cells slots lsA' C hW hS (LsR.set1 (v := .int x) hok hL') hc hs
theorem R_astore {M : MI} {pc nx : Nat} {ls : List (Option Value)} {st : List Value} {σ : AHp} {kc ks : Nat} {Q : Option Value → AHp → Prop} {i : Nat} {x : Nat} {ls' : List (Option Value)} (h : At M pc (.astore i) 2 nx) (hi : Nat.ble (i + 1) M.mL = true) (hok : okS ls i = true) (hl : ls.set i (some (.ref x)) = ls') (k : Run M nx ls' st σ kc ks Q) : Run M pc ls (.ref x :: st) σ kc ks Q := by
  obtain ⟨hd, rfl⟩ := h
  subst hl
  intro p l e s m args below meth c E H locs cells slots lsA C hW hS hL hc hs
  exact lv_astore C.1 C.2.1 hd hL (Nat.le_of_ble_eq_true hi) rfl fun lsA' hL' => k p l e s m args below meth c E H locs cells slots lsA' C hW hS (LsR.set1 (v := .ref x) hok hL') hc hs
theorem R_astore_n {M : MI} {pc nx : Nat} {ls : List (Option Value)} {st : List Value} {σ : AHp} {kc ks : Nat} {Q : Option Value → AHp → Prop} {i : Fin 4} {x : Nat} {ls' : List (Option Value)} (h : At M pc (.astore_n i) 1 nx) (hi : Nat.ble ((i : Nat) + 1) M.mL = true) (hok : okS ls (i : Nat) = true) (hl : ls.set (i : Nat) (some (.ref x)) = ls') (k : Run M nx ls' st σ kc ks Q) : Run M pc ls (.ref x :: st) σ kc ks Q := by
  obtain ⟨hd, rfl⟩ := h
  subst hl
  intro p l e s m args below meth c E H locs cells slots lsA C hW hS hL hc hs
  exact lv_astore_n C.1 C.2.1 hd rfl hL (Nat.le_of_ble_eq_true hi) rfl fun lsA' hL' => k p l e s m args below meth c E H locs cells slots lsA' C hW hS (LsR.set1 (v := .ref x) hok hL') hc hs
theorem R_lstore {M : MI} {pc nx : Nat} {ls : List (Option Value)} {st : List Value} {σ : AHp} {kc ks : Nat} {Q : Option Value → AHp → Prop} {i : Nat} {x : Int64} {ls' : List (Option Value)} (h : At M pc (.lstore i) 2 nx) (hi : Nat.ble (i + 2) M.mL = true) (hok : okS ls i = true) (hl : (ls.set i (some (.long x))).set (i + 1) none = ls') (k : Run M nx ls' st σ kc ks Q) : Run M pc ls (.long x :: st) σ kc ks Q := by
  obtain ⟨hd, rfl⟩ := h
  subst hl
  intro p l e s m args below meth c E H locs cells slots lsA C hW hS hL hc hs
  exact lv_lstore C.1 C.2.1 hd hL (Nat.le_of_ble_eq_true hi) rfl fun lsA' hL' => k p l e s m args below meth c E H locs cells slots lsA' C hW hS (LsR.set2 (v := .long x) hok hL') hc hs
theorem R_lstore_n {M : MI} {pc nx : Nat} {ls : List (Option Value)} {st : List Value} {σ : AHp} {kc ks : Nat} {Q : Option Value → AHp → Prop} {i : Fin 4} {x : Int64} {ls' : List (Option Value)} (h : At M pc (.lstore_n i) 1 nx) (hi : Nat.ble ((i : Nat) + 2) M.mL = true) (hok : okS ls (i : Nat) = true) (hl : (ls.set (i : Nat) (some (.long x))).set ((i : Nat) + 1) none = ls') (k : Run M nx ls' st σ kc ks Q) : Run M pc ls (.long x :: st) σ kc ks Q := by
  obtain ⟨hd, rfl⟩ := h
  subst hl
  intro p l e s m args below meth c E H locs cells slots lsA C hW hS hL hc hs
  exact lv_lstore_n C.1 C.2.1 hd rfl hL (Nat.le_of_ble_eq_true hi) rfl fun lsA' hL' => k p l e s m args below meth c E H locs cells slots lsA' C hW hS (LsR.set2 (v := .long x) hok hL') hc hs
theorem lvF_at {E : En} {ls : List (Option Value)} {i : Nat} {v : Value} (h : ls[i]? = some (some v)) : ∃ k : Nat, (lvF E 0 ls)[k]? = some (i, cv E v) := List.getElem?_of_mem (mem_lvF.mpr ⟨i, v, h, by simp⟩)
theorem R_iinc {M : MI} {pc nx : Nat} {ls : List (Option Value)} {st : List Value} {σ : AHp} {kc ks : Nat} {Q : Option Value → AHp → Prop} {i : Nat} {n : Int} {x v : Int32} {ls' : List (Option Value)} (h : At M pc (.iinc i n) 3 nx) (hx : ls[i]? = some (some (.int x))) (hv : x + Int32.ofInt n = v) (hi : Nat.ble (i + 1) M.mL = true) (hok : okS ls i = true) (hl : ls.set i (some (.int v)) = ls') (k : Run M nx ls' st σ kc ks Q) : Run M pc ls st σ kc ks Q := by
  obtain ⟨hd, rfl⟩ := h
  subst hl
  intro p l e s m args below meth c E H locs cells slots lsA C hW hS hL hc hs
  obtain ⟨j, hj⟩ := lvF_at (E := E) hx
  exact lv_iinc C.1 C.2.1 hd hL hj hv (Nat.le_of_ble_eq_true hi) rfl fun lsA' hL' => k p l e s m args below meth c E H locs cells slots lsA' C hW hS (LsR.set1 (v := .int v) hok hL') hc hs
theorem R_dup {M : MI} {pc nx : Nat} {ls : List (Option Value)} {st : List Value} {σ : AHp} {kc ks : Nat} {Q : Option Value → AHp → Prop} {va : Value} (h : At M pc (.dup) 1 nx) (hva : va.category = 1) (k : Run M nx ls (va :: va :: st) σ kc ks Q) : Run M pc ls (va :: st) σ kc ks Q := by
  obtain ⟨hd, rfl⟩ := h
  intro p l e s m args below meth c E H locs cells slots lsA C hW hS hL hc hs
  exact lv_dup C.1 C.2.1 hd (by rw [cv_cat]; exact hva) (k p l e s m args below meth c E H locs cells slots lsA C hW hS hL hc hs)
theorem R_pop {M : MI} {pc nx : Nat} {ls : List (Option Value)} {st : List Value} {σ : AHp} {kc ks : Nat} {Q : Option Value → AHp → Prop} {va : Value} (h : At M pc (.pop) 1 nx) (hva : va.category = 1) (k : Run M nx ls (st) σ kc ks Q) : Run M pc ls (va :: st) σ kc ks Q := by
  obtain ⟨hd, rfl⟩ := h
  intro p l e s m args below meth c E H locs cells slots lsA C hW hS hL hc hs
  exact lv_pop C.1 C.2.1 hd (by rw [cv_cat]; exact hva) (k p l e s m args below meth c E H locs cells slots lsA C hW hS hL hc hs)
theorem R_dup2 {M : MI} {pc nx : Nat} {ls : List (Option Value)} {st : List Value} {σ : AHp} {kc ks : Nat} {Q : Option Value → AHp → Prop} {va vb : Value} (h : At M pc (.dup2) 1 nx) (hva : va.category = 1) (hvb : vb.category = 1) (k : Run M nx ls (va :: vb :: va :: vb :: st) σ kc ks Q) : Run M pc ls (va :: vb :: st) σ kc ks Q := by
  obtain ⟨hd, rfl⟩ := h
  intro p l e s m args below meth c E H locs cells slots lsA C hW hS hL hc hs
  exact lv_dup2_11 C.1 C.2.1 hd (by rw [cv_cat]; exact hva) (by rw [cv_cat]; exact hvb) (k p l e s m args below meth c E H locs cells slots lsA C hW hS hL hc hs)
theorem R_iadd {M : MI} {pc nx : Nat} {ls : List (Option Value)} {st : List Value} {σ : AHp} {kc ks : Nat} {Q : Option Value → AHp → Prop} {x y : Int32} (h : At M pc (.iadd) 1 nx)  (k : Run M nx ls (.int (x + y) :: st) σ kc ks Q) : Run M pc ls (.int y :: .int x :: st) σ kc ks Q := by
  obtain ⟨hd, rfl⟩ := h
  intro p l e s m args below meth c E H locs cells slots lsA C hW hS hL hc hs
  exact lv_iadd C.1 C.2.1 hd  (k p l e s m args below meth c E H locs cells slots lsA C hW hS hL hc hs)
theorem R_isub {M : MI} {pc nx : Nat} {ls : List (Option Value)} {st : List Value} {σ : AHp} {kc ks : Nat} {Q : Option Value → AHp → Prop} {x y : Int32} (h : At M pc (.isub) 1 nx)  (k : Run M nx ls (.int (x - y) :: st) σ kc ks Q) : Run M pc ls (.int y :: .int x :: st) σ kc ks Q := by
  obtain ⟨hd, rfl⟩ := h
  intro p l e s m args below meth c E H locs cells slots lsA C hW hS hL hc hs
  exact lv_isub C.1 C.2.1 hd  (k p l e s m args below meth c E H locs cells slots lsA C hW hS hL hc hs)
theorem R_imul {M : MI} {pc nx : Nat} {ls : List (Option Value)} {st : List Value} {σ : AHp} {kc ks : Nat} {Q : Option Value → AHp → Prop} {x y : Int32} (h : At M pc (.imul) 1 nx)  (k : Run M nx ls (.int (x * y) :: st) σ kc ks Q) : Run M pc ls (.int y :: .int x :: st) σ kc ks Q := by
  obtain ⟨hd, rfl⟩ := h
  intro p l e s m args below meth c E H locs cells slots lsA C hW hS hL hc hs
  exact lv_imul C.1 C.2.1 hd  (k p l e s m args below meth c E H locs cells slots lsA C hW hS hL hc hs)
theorem R_iand {M : MI} {pc nx : Nat} {ls : List (Option Value)} {st : List Value} {σ : AHp} {kc ks : Nat} {Q : Option Value → AHp → Prop} {x y : Int32} (h : At M pc (.iand) 1 nx)  (k : Run M nx ls (.int (x &&& y) :: st) σ kc ks Q) : Run M pc ls (.int y :: .int x :: st) σ kc ks Q := by
  obtain ⟨hd, rfl⟩ := h
  intro p l e s m args below meth c E H locs cells slots lsA C hW hS hL hc hs
  exact lv_iand C.1 C.2.1 hd  (k p l e s m args below meth c E H locs cells slots lsA C hW hS hL hc hs)
theorem R_ior {M : MI} {pc nx : Nat} {ls : List (Option Value)} {st : List Value} {σ : AHp} {kc ks : Nat} {Q : Option Value → AHp → Prop} {x y : Int32} (h : At M pc (.ior) 1 nx)  (k : Run M nx ls (.int (x ||| y) :: st) σ kc ks Q) : Run M pc ls (.int y :: .int x :: st) σ kc ks Q := by
  obtain ⟨hd, rfl⟩ := h
  intro p l e s m args below meth c E H locs cells slots lsA C hW hS hL hc hs
  exact lv_ior C.1 C.2.1 hd  (k p l e s m args below meth c E H locs cells slots lsA C hW hS hL hc hs)
theorem R_ixor {M : MI} {pc nx : Nat} {ls : List (Option Value)} {st : List Value} {σ : AHp} {kc ks : Nat} {Q : Option Value → AHp → Prop} {x y : Int32} (h : At M pc (.ixor) 1 nx)  (k : Run M nx ls (.int (x ^^^ y) :: st) σ kc ks Q) : Run M pc ls (.int y :: .int x :: st) σ kc ks Q := by
  obtain ⟨hd, rfl⟩ := h
  intro p l e s m args below meth c E H locs cells slots lsA C hW hS hL hc hs
  exact lv_ixor C.1 C.2.1 hd  (k p l e s m args below meth c E H locs cells slots lsA C hW hS hL hc hs)
theorem R_ishl {M : MI} {pc nx : Nat} {ls : List (Option Value)} {st : List Value} {σ : AHp} {kc ks : Nat} {Q : Option Value → AHp → Prop} {x y : Int32} (h : At M pc (.ishl) 1 nx)  (k : Run M nx ls (.int (x <<< (y &&& 31)) :: st) σ kc ks Q) : Run M pc ls (.int y :: .int x :: st) σ kc ks Q := by
  obtain ⟨hd, rfl⟩ := h
  intro p l e s m args below meth c E H locs cells slots lsA C hW hS hL hc hs
  exact lv_ishl C.1 C.2.1 hd  (k p l e s m args below meth c E H locs cells slots lsA C hW hS hL hc hs)
theorem R_ishr {M : MI} {pc nx : Nat} {ls : List (Option Value)} {st : List Value} {σ : AHp} {kc ks : Nat} {Q : Option Value → AHp → Prop} {x y : Int32} (h : At M pc (.ishr) 1 nx)  (k : Run M nx ls (.int (x >>> (y &&& 31)) :: st) σ kc ks Q) : Run M pc ls (.int y :: .int x :: st) σ kc ks Q := by
  obtain ⟨hd, rfl⟩ := h
  intro p l e s m args below meth c E H locs cells slots lsA C hW hS hL hc hs
  exact lv_ishr C.1 C.2.1 hd  (k p l e s m args below meth c E H locs cells slots lsA C hW hS hL hc hs)
theorem R_idiv {M : MI} {pc nx : Nat} {ls : List (Option Value)} {st : List Value} {σ : AHp} {kc ks : Nat} {Q : Option Value → AHp → Prop} {x y : Int32} (h : At M pc (.idiv) 1 nx) (hne : ¬ y = 0) (k : Run M nx ls (.int (x / y) :: st) σ kc ks Q) : Run M pc ls (.int y :: .int x :: st) σ kc ks Q := by
  obtain ⟨hd, rfl⟩ := h
  intro p l e s m args below meth c E H locs cells slots lsA C hW hS hL hc hs
  exact lv_idiv C.1 C.2.1 hd hne (k p l e s m args below meth c E H locs cells slots lsA C hW hS hL hc hs)
theorem R_irem {M : MI} {pc nx : Nat} {ls : List (Option Value)} {st : List Value} {σ : AHp} {kc ks : Nat} {Q : Option Value → AHp → Prop} {x y : Int32} (h : At M pc (.irem) 1 nx) (hne : ¬ y = 0) (k : Run M nx ls (.int (x - x / y * y) :: st) σ kc ks Q) : Run M pc ls (.int y :: .int x :: st) σ kc ks Q := by
  obtain ⟨hd, rfl⟩ := h
  intro p l e s m args below meth c E H locs cells slots lsA C hW hS hL hc hs
  exact lv_irem C.1 C.2.1 hd hne (k p l e s m args below meth c E H locs cells slots lsA C hW hS hL hc hs)
theorem R_iushr {M : MI} {pc nx : Nat} {ls : List (Option Value)} {st : List Value} {σ : AHp} {kc ks : Nat} {Q : Option Value → AHp → Prop} {x y v : Int32} (h : At M pc (.iushr) 1 nx) (hv : (x.toUInt32 >>> (y.toUInt32 &&& Int32.toUInt32 31)).toInt32 = v) (k : Run M nx ls (.int v :: st) σ kc ks Q) : Run M pc ls (.int y :: .int x :: st) σ kc ks Q := by
  obtain ⟨hd, rfl⟩ := h
  intro p l e s m args below meth c E H locs cells slots lsA C hW hS hL hc hs
  exact lv_iushr C.1 C.2.1 hd hv (k p l e s m args below meth c E H locs cells slots lsA C hW hS hL hc hs)
theorem R_ineg {M : MI} {pc nx : Nat} {ls : List (Option Value)} {st : List Value} {σ : AHp} {kc ks : Nat} {Q : Option Value → AHp → Prop} {x : Int32} (h : At M pc (.ineg) 1 nx)  (k : Run M nx ls (.int (-x) :: st) σ kc ks Q) : Run M pc ls (.int x :: st) σ kc ks Q := by
  obtain ⟨hd, rfl⟩ := h
  intro p l e s m args below meth c E H locs cells slots lsA C hW hS hL hc hs
  exact lv_ineg C.1 C.2.1 hd  (k p l e s m args below meth c E H locs cells slots lsA C hW hS hL hc hs)
theorem R_ladd {M : MI} {pc nx : Nat} {ls : List (Option Value)} {st : List Value} {σ : AHp} {kc ks : Nat} {Q : Option Value → AHp → Prop} {x y : Int64} (h : At M pc (.ladd) 1 nx)  (k : Run M nx ls (.long (x + y) :: st) σ kc ks Q) : Run M pc ls (.long y :: .long x :: st) σ kc ks Q := by
  obtain ⟨hd, rfl⟩ := h
  intro p l e s m args below meth c E H locs cells slots lsA C hW hS hL hc hs
  exact lv_ladd C.1 C.2.1 hd  (k p l e s m args below meth c E H locs cells slots lsA C hW hS hL hc hs)
theorem R_lmul {M : MI} {pc nx : Nat} {ls : List (Option Value)} {st : List Value} {σ : AHp} {kc ks : Nat} {Q : Option Value → AHp → Prop} {x y : Int64} (h : At M pc (.lmul) 1 nx)  (k : Run M nx ls (.long (x * y) :: st) σ kc ks Q) : Run M pc ls (.long y :: .long x :: st) σ kc ks Q := by
  obtain ⟨hd, rfl⟩ := h
  intro p l e s m args below meth c E H locs cells slots lsA C hW hS hL hc hs
  exact lv_lmul C.1 C.2.1 hd  (k p l e s m args below meth c E H locs cells slots lsA C hW hS hL hc hs)
theorem R_ldiv {M : MI} {pc nx : Nat} {ls : List (Option Value)} {st : List Value} {σ : AHp} {kc ks : Nat} {Q : Option Value → AHp → Prop} {x y : Int64} (h : At M pc (.ldiv) 1 nx) (hne : ¬ y = 0) (k : Run M nx ls (.long (x / y) :: st) σ kc ks Q) : Run M pc ls (.long y :: .long x :: st) σ kc ks Q := by
  obtain ⟨hd, rfl⟩ := h
  intro p l e s m args below meth c E H locs cells slots lsA C hW hS hL hc hs
  exact lv_ldiv C.1 C.2.1 hd hne (k p l e s m args below meth c E H locs cells slots lsA C hW hS hL hc hs)
theorem R_lrem {M : MI} {pc nx : Nat} {ls : List (Option Value)} {st : List Value} {σ : AHp} {kc ks : Nat} {Q : Option Value → AHp → Prop} {x y : Int64} (h : At M pc (.lrem) 1 nx) (hne : ¬ y = 0) (k : Run M nx ls (.long (x - x / y * y) :: st) σ kc ks Q) : Run M pc ls (.long y :: .long x :: st) σ kc ks Q := by
  obtain ⟨hd, rfl⟩ := h
  intro p l e s m args below meth c E H locs cells slots lsA C hW hS hL hc hs
  exact lv_lrem C.1 C.2.1 hd hne (k p l e s m args below meth c E H locs cells slots lsA C hW hS hL hc hs)
theorem R_i2l {M : MI} {pc nx : Nat} {ls : List (Option Value)} {st : List Value} {σ : AHp} {kc ks : Nat} {Q : Option Value → AHp → Prop} {x : Int32} {v : Int64} (h : At M pc (.i2l) 1 nx) (hv : x.toInt64 = v) (k : Run M nx ls (.long v :: st) σ kc ks Q) : Run M pc ls (.int x :: st) σ kc ks Q := by
  obtain ⟨hd, rfl⟩ := h
  intro p l e s m args below meth c E H locs cells slots lsA C hW hS hL hc hs
  exact lv_i2l C.1 C.2.1 hd hv (k p l e s m args below meth c E H locs cells slots lsA C hW hS hL hc hs)
theorem R_l2i {M : MI} {pc nx : Nat} {ls : List (Option Value)} {st : List Value} {σ : AHp} {kc ks : Nat} {Q : Option Value → AHp → Prop} {x : Int64} {v : Int32} (h : At M pc (.l2i) 1 nx) (hv : x.toInt32 = v) (k : Run M nx ls (.int v :: st) σ kc ks Q) : Run M pc ls (.long x :: st) σ kc ks Q := by
  obtain ⟨hd, rfl⟩ := h
  intro p l e s m args below meth c E H locs cells slots lsA C hW hS hL hc hs
  exact lv_l2i C.1 C.2.1 hd hv (k p l e s m args below meth c E H locs cells slots lsA C hW hS hL hc hs)
theorem R_lcmp {M : MI} {pc nx : Nat} {ls : List (Option Value)} {st : List Value} {σ : AHp} {kc ks : Nat} {Q : Option Value → AHp → Prop} {x y : Int64} (h : At M pc (.lcmp) 1 nx)  (k : Run M nx ls (.int (lg_cmp x y) :: st) σ kc ks Q) : Run M pc ls (.long y :: .long x :: st) σ kc ks Q := by
  obtain ⟨hd, rfl⟩ := h
  intro p l e s m args below meth c E H locs cells slots lsA C hW hS hL hc hs
  exact W.lcmp C.1 C.2.1 hd  (k p l e s m args below meth c E H locs cells slots lsA C hW hS hL hc hs)
theorem R_top {M : MI} {pc nx : Nat} {ls : List (Option Value)} {st : List Value} {σ : AHp} {kc ks : Nat} {Q : Option Value → AHp → Prop} {x y : Int32} (h : x = y) (k : Run M pc ls (.int y :: st) σ kc ks Q) : Run M pc ls (.int x :: st) σ kc ks Q := h ▸ k
theorem R_topl {M : MI} {pc nx : Nat} {ls : List (Option Value)} {st : List Value} {σ : AHp} {kc ks : Nat} {Q : Option Value → AHp → Prop} {x y : Int64} (h : x = y) (k : Run M pc ls (.long y :: st) σ kc ks Q) : Run M pc ls (.long x :: st) σ kc ks Q := h ▸ k
theorem R_goto {M : MI} {pc nx nx' : Nat} {ls : List (Option Value)} {st : List Value} {σ : AHp} {kc ks : Nat} {Q : Option Value → AHp → Prop} (h : AtB M pc .goto nx nx') (k : Run M nx' ls st σ kc ks Q) : Run M pc ls st σ kc ks Q := by
  obtain ⟨off, hd, rfl, ht⟩ := h
  intro p l e s m args below meth c E H locs cells slots lsA C hW hS hL hc hs
  exact lv_goto C.1 C.2.1 hd ht (k p l e s m args below meth c E H locs cells slots lsA C hW hS hL hc hs)
theorem R_icmp_eq {M : MI} {pc nx tgt : Nat} {ls : List (Option Value)} {st : List Value} {σ : AHp} {kc ks : Nat} {Q : Option Value → AHp → Prop} {x y : Int32} (h : AtB M pc (.if_icmp .eq) nx tgt) (kt : x = y → Run M tgt ls st σ kc ks Q) (kf : ¬ x = y → Run M nx ls st σ kc ks Q) : Run M pc ls (.int y :: .int x :: st) σ kc ks Q := by
  obtain ⟨off, hd, rfl, ht⟩ := h
  intro p l e s m args below meth c E H locs cells slots lsA C hW hS hL hc hs
  exact lv_icmp_eq C.1 C.2.1 hd ht (fun q => kt q p l e s m args below meth c E H locs cells slots lsA C hW hS hL hc hs) (fun q => kf q p l e s m args below meth c E H locs cells slots lsA C hW hS hL hc hs)
theorem R_if_eq {M : MI} {pc nx tgt : Nat} {ls : List (Option Value)} {st : List Value} {σ : AHp} {kc ks : Nat} {Q : Option Value → AHp → Prop} {x : Int32} (h : AtB M pc (.ifCond .eq) nx tgt) (kt : x = 0 → Run M tgt ls st σ kc ks Q) (kf : ¬ x = 0 → Run M nx ls st σ kc ks Q) : Run M pc ls (.int x :: st) σ kc ks Q := by
  obtain ⟨off, hd, rfl, ht⟩ := h
  intro p l e s m args below meth c E H locs cells slots lsA C hW hS hL hc hs
  exact lv_if_eq C.1 C.2.1 hd ht (fun q => kt q p l e s m args below meth c E H locs cells slots lsA C hW hS hL hc hs) (fun q => kf q p l e s m args below meth c E H locs cells slots lsA C hW hS hL hc hs)
theorem R_icmp_ne {M : MI} {pc nx tgt : Nat} {ls : List (Option Value)} {st : List Value} {σ : AHp} {kc ks : Nat} {Q : Option Value → AHp → Prop} {x y : Int32} (h : AtB M pc (.if_icmp .ne) nx tgt) (kt : ¬ x = y → Run M tgt ls st σ kc ks Q) (kf : x = y → Run M nx ls st σ kc ks Q) : Run M pc ls (.int y :: .int x :: st) σ kc ks Q := by
  obtain ⟨off, hd, rfl, ht⟩ := h
  intro p l e s m args below meth c E H locs cells slots lsA C hW hS hL hc hs
  exact lv_icmp_ne C.1 C.2.1 hd ht (fun q => kt q p l e s m args below meth c E H locs cells slots lsA C hW hS hL hc hs) (fun q => kf q p l e s m args below meth c E H locs cells slots lsA C hW hS hL hc hs)
theorem R_if_ne {M : MI} {pc nx tgt : Nat} {ls : List (Option Value)} {st : List Value} {σ : AHp} {kc ks : Nat} {Q : Option Value → AHp → Prop} {x : Int32} (h : AtB M pc (.ifCond .ne) nx tgt) (kt : ¬ x = 0 → Run M tgt ls st σ kc ks Q) (kf : x = 0 → Run M nx ls st σ kc ks Q) : Run M pc ls (.int x :: st) σ kc ks Q := by
  obtain ⟨off, hd, rfl, ht⟩ := h
  intro p l e s m args below meth c E H locs cells slots lsA C hW hS hL hc hs
  exact lv_if_ne C.1 C.2.1 hd ht (fun q => kt q p l e s m args below meth c E H locs cells slots lsA C hW hS hL hc hs) (fun q => kf q p l e s m args below meth c E H locs cells slots lsA C hW hS hL hc hs)
theorem R_icmp_lt {M : MI} {pc nx tgt : Nat} {ls : List (Option Value)} {st : List Value} {σ : AHp} {kc ks : Nat} {Q : Option Value → AHp → Prop} {x y : Int32} (h : AtB M pc (.if_icmp .lt) nx tgt) (kt : x < y → Run M tgt ls st σ kc ks Q) (kf : ¬ x < y → Run M nx ls st σ kc ks Q) : Run M pc ls (.int y :: .int x :: st) σ kc ks Q := by
  obtain ⟨off, hd, rfl, ht⟩ := h
  intro p l e s m args below meth c E H locs cells slots lsA C hW hS hL hc hs
  exact lv_icmp_lt C.1 C.2.1 hd ht (fun q => kt q p l e s m args below meth c E H locs cells slots lsA C hW hS hL hc hs) (fun q => kf q p l e s m args below meth c E H locs cells slots lsA C hW hS hL hc hs)
theorem R_if_lt {M : MI} {pc nx tgt : Nat} {ls : List (Option Value)} {st : List Value} {σ : AHp} {kc ks : Nat} {Q : Option Value → AHp → Prop} {x : Int32} (h : AtB M pc (.ifCond .lt) nx tgt) (kt : x < 0 → Run M tgt ls st σ kc ks Q) (kf : ¬ x < 0 → Run M nx ls st σ kc ks Q) : Run M pc ls (.int x :: st) σ kc ks Q := by
  obtain ⟨off, hd, rfl, ht⟩ := h
  intro p l e s m args below meth c E H locs cells slots lsA C hW hS hL hc hs
  exact lv_if_lt C.1 C.2.1 hd ht (fun q => kt q p l e s m args below meth c E H locs cells slots lsA C hW hS hL hc hs) (fun q => kf q p l e s m args below meth c E H locs cells slots lsA C hW hS hL hc hs)
theorem R_icmp_ge {M : MI} {pc nx tgt : Nat} {ls : List (Option Value)} {st : List Value} {σ : AHp} {kc ks : Nat} {Q : Option Value → AHp → Prop} {x y : Int32} (h : AtB M pc (.if_icmp .ge) nx tgt) (kt : y ≤ x → Run M tgt ls st σ kc ks Q) (kf : ¬ y ≤ x → Run M nx ls st σ kc ks Q) : Run M pc ls (.int y :: .int x :: st) σ kc ks Q := by
  obtain ⟨off, hd, rfl, ht⟩ := h
  intro p l e s m args below meth c E H locs cells slots lsA C hW hS hL hc hs
  exact lv_icmp_ge C.1 C.2.1 hd ht (fun q => kt q p l e s m args below meth c E H locs cells slots lsA C hW hS hL hc hs) (fun q => kf q p l e s m args below meth c E H locs cells slots lsA C hW hS hL hc hs)
theorem R_if_ge {M : MI} {pc nx tgt : Nat} {ls : List (Option Value)} {st : List Value} {σ : AHp} {kc ks : Nat} {Q : Option Value → AHp → Prop} {x : Int32} (h : AtB M pc (.ifCond .ge) nx tgt) (kt : 0 ≤ x → Run M tgt ls st σ kc ks Q) (kf : ¬ 0 ≤ x → Run M nx ls st σ kc ks Q) : Run M pc ls (.int x :: st) σ kc ks Q := by
  obtain ⟨off, hd, rfl, ht⟩ := h
  intro p l e s m args below meth c E H locs cells slots lsA C hW hS hL hc hs
  exact lv_if_ge C.1 C.2.1 hd ht (fun q => kt q p l e s m args below meth c E H locs cells slots lsA C hW hS hL hc hs) (fun q => kf q p l e s m args below meth c E H locs cells slots lsA C hW hS hL hc hs)
theorem R_icmp_gt {M : MI} {pc nx tgt : Nat} {ls : List (Option Value)} {st : List Value} {σ : AHp} {kc ks : Nat} {Q : Option Value → AHp → Prop} {x y : Int32} (h : AtB M pc (.if_icmp .gt) nx tgt) (kt : y < x → Run M tgt ls st σ kc ks Q) (kf : ¬ y < x → Run M nx ls st σ kc ks Q) : Run M pc ls (.int y :: .int x :: st) σ kc ks Q := by
  obtain ⟨off, hd, rfl, ht⟩ := h
  intro p l e s m args below meth c E H locs cells slots lsA C hW hS hL hc hs
  exact lv_icmp_gt C.1 C.2.1 hd ht (fun q => kt q p l e s m args below meth c E H locs cells slots lsA C hW hS hL hc hs) (fun q => kf q p l e s m args below meth c E H locs cells slots lsA C hW hS hL hc hs)
theorem R_if_gt {M : MI} {pc nx tgt : Nat} {ls : List (Option Value)} {st : List Value} {σ : AHp} {kc ks : Nat} {Q : Option Value → AHp → Prop} {x : Int32} (h : AtB M pc (.ifCond .gt) nx tgt) (kt : 0 < x → Run M tgt ls st σ kc ks Q) (kf : ¬ 0 < x → Run M nx ls st σ kc ks Q) : Run M pc ls (.int x :: st) σ kc ks Q := by
  obtain ⟨off, hd, rfl, ht⟩ := h
  intro p l e s m args below meth c E H locs cells slots lsA C hW hS hL hc hs
  exact lv_if_gt C.1 C.2.1 hd ht (fun q => kt q p l e s m args below meth c E H locs cells slots lsA C hW hS hL hc hs) (fun q => kf q p l e s m args below meth c E H locs cells slots lsA C hW hS hL hc hs)
theorem R_icmp_le {M : MI} {pc nx tgt : Nat} {ls : List (Option Value)} {st : List Value} {σ : AHp} {kc ks : Nat} {Q : Option Value → AHp → Prop} {x y : Int32} (h : AtB M pc (.if_icmp .le) nx tgt) (kt : x ≤ y → Run M tgt ls st σ kc ks Q) (kf : ¬ x ≤ y → Run M nx ls st σ kc ks Q) : Run M pc ls (.int y :: .int x :: st) σ kc ks Q := by
  obtain ⟨off, hd, rfl, ht⟩ := h
  intro p l e s m args below meth c E H locs cells slots lsA C hW hS hL hc hs
  exact lv_icmp_le C.1 C.2.1 hd ht (fun q => kt q p l e s m args below meth c E H locs cells slots lsA C hW hS hL hc hs) (fun q => kf q p l e s m args below meth c E H locs cells slots lsA C hW hS hL hc hs)
theorem R_if_le {M : MI} {pc nx tgt : Nat} {ls : List (Option Value)} {st : List Value} {σ : AHp} {kc ks : Nat} {Q : Option Value → AHp → Prop} {x : Int32} (h : AtB M pc (.ifCond .le) nx tgt) (kt : x ≤ 0 → Run M tgt ls st σ kc ks Q) (kf : ¬ x ≤ 0 → Run M nx ls st σ kc ks Q) : Run M pc ls (.int x :: st) σ kc ks Q := by
  obtain ⟨off, hd, rfl, ht⟩ := h
  intro p l e s m args below meth c E H locs cells slots lsA C hW hS hL hc hs
  exact lv_if_le C.1 C.2.1 hd ht (fun q => kt q p l e s m args below meth c E H locs cells slots lsA C hW hS hL hc hs) (fun q => kf q p l e s m args below meth c E H locs cells slots lsA C hW hS hL hc hs)
theorem R_tswI {M : MI} {pc nx tgt : Nat} {ls : List (Option Value)} {st : List Value} {σ : AHp} {kc ks : Nat} {Q : Option Value → AHp → Prop} {len : Nat} {dflt lo hi off c0 : Int} {offs : Array Int} {x : Int32} (h : At M pc (.tableswitch dflt lo hi offs) len nx) (hx : x.toInt = c0) (h1 : ¬ c0 < lo) (h2 : ¬ hi < c0) (ho : offs[(c0 - lo).toNat]? = some off) (ht : (pc : Int) + off = (tgt : Int)) (k : Run M tgt ls st σ kc ks Q) : Run M pc ls (.int x :: st) σ kc ks Q := by
  obtain ⟨hd, rfl⟩ := h
  subst hx
  intro p l e s m args below meth c E H locs cells slots lsA C hW hS hL hc hs
  exact lv_tableIn C.1 C.2.1 hd h1 h2 ho ht (k p l e s m args below meth c E H locs cells slots lsA C hW hS hL hc hs)
theorem R_tswO {M : MI} {pc nx tgt : Nat} {ls : List (Option Value)} {st : List Value} {σ : AHp} {kc ks : Nat} {Q : Option Value → AHp → Prop} {len : Nat} {dflt lo hi : Int} {offs : Array Int} {x : Int32} (h : At M pc (.tableswitch dflt lo hi offs) len nx) (hx : x.toInt < lo ∨ hi < x.toInt) (ht : (pc : Int) + dflt = (tgt : Int)) (k : Run M tgt ls st σ kc ks Q) : Run M pc ls (.int x :: st) σ kc ks Q := by
  obtain ⟨hd, rfl⟩ := h
  intro p l e s m args below meth c E H locs cells slots lsA C hW hS hL hc hs
  exact lv_tableOut C.1 C.2.1 hd hx ht (k p l e s m args below meth c E H locs cells slots lsA C hW hS hL hc hs)
theorem R_lsw {M : MI} {pc nx tgt : Nat} {ls : List (Option Value)} {st : List Value} {σ : AHp} {kc ks : Nat} {Q : Option Value → AHp → Prop} {len : Nat} {dflt off : Int} {ps : Array (Int × Int)} {x : Int32} (h : At M pc (.lookupswitch dflt ps) len nx) (hp : (ps.toList.zip (ps.toList.drop 1)).all (fun (a, next) => a.1 < next.1) = true) (ho : Op.lookupswitch.offset ps.toList dflt x.toInt = off) (ht : (pc : Int) + off = (tgt : Int)) (k : Run M tgt ls st σ kc ks Q) : Run M pc ls (.int x :: st) σ kc ks Q := by
  obtain ⟨hd, rfl⟩ := h
  intro p l e s m args below meth c E H locs cells slots lsA C hW hS hL hc hs
  exact lv_lookup C.1 C.2.1 hd hp ho ht (k p l e s m args below meth c E H locs cells slots lsA C hW hS hL hc hs)
end
section
/-! ===== RULES: the heap ===== -/
theorem Cx.K {M : MI} {E : En} {p : Program} {s : State} {m : MethodId} {args : Array Value} {meth : Method} {c : Code} (C : Cx M E p s m args meth c) : va_K E.D vwCl (tysE E) s := C.2.2.2.2.2.2.2.2.1
theorem Cx.ts {M : MI} {E : En} {p : Program} {s : State} {m : MethodId} {args : Array Value} {meth : Method} {c : Code} (C : Cx M E p s m args meth c) : ∀ w ∈ wsM M, w.before args s = true := C.2.2.2.2.2.1
theorem Cx.own {M : MI} {E : En} {p : Program} {s : State} {m : MethodId} {args : Array Value} {meth : Method} {c : Code} (C : Cx M E p s m args meth c) : s.vm.findClass M.y.cls = some m.cls := C.2.2.2.2.1
theorem Cx.lt {M : MI} {E : En} {p : Program} {s : State} {m : MethodId} {args : Array Value} {meth : Method} {c : Code} (C : Cx M E p s m args meth c) {w : Cond} (h : w ∈ LT) : w.before args s = true := C.ts w (wsM_LT h)
theorem Wd.obj {E : En} {U : State} {σ : AHp} {H : Heap} {q ci : Nat} {fs : List Value} (h : Wd E U σ H) (hq : σ q = some (oB ci fs)) : q ≠ 0 ∧ va_at E.D vwCl (ad E q, .inr (ci, fs.map (cv E))) H := by
  have h0 : q ≠ 0 := by
    rintro rfl
    obtain ⟨L, xs, h1, -⟩ := h.2.1 _ hq
    cases h1
  exact ⟨h0, h.1 q _ h0 hq⟩
theorem Wd.P1 {E : En} {U : State} {σ : AHp} {H : Heap} {q ci : Nat} {fs : List Value} (h : Wd E U σ H) (hq : σ q = some (oB ci fs)) : va_P E.D vwCl [(ad E q, .inr (ci, fs.map (cv E)))] H := by
  intro k x hx
  have hk : k < 1 := (List.getElem?_eq_some_iff.mp hx).1
  rw [show k = 0 by omega] at hx
  cases hx
  exact (h.obj hq).2
def GF (M : MI) (pc ci k nx : Nat) : Prop := ∃ (C : String) (T : u_T) (N idx : Nat), decode M.code pc = .ok (.getfield idx, 3) ∧ pc + 3 = nx ∧ vwCl[ci]? = some (C, T, N) ∧ k < N ∧ (∀ w ∈ u_ws C T N, w ∈ LT) ∧ Cond.fieldLink M.y.cls idx (T k).1 (T k).2.1 (T k).2.2.1 ∈ LT
def PF (M : MI) (pc ci k : Nat) (ty : FieldType) (nx : Nat) : Prop := ∃ (C : String) (T : u_T) (N idx : Nat) (ty0 : Nat → FieldType), decode M.code pc = .ok (.putfield idx, 3) ∧ pc + 3 = nx ∧ vwCl[ci]? = some (C, T, N) ∧ k < N ∧ (∀ w ∈ u_ws C T N, w ∈ LT) ∧ Cond.fieldLink M.y.cls idx (T k).1 (T k).2.1 (T k).2.2.1 ∈ LT ∧ (∀ k, k < N → parseFieldDescriptor (T k).2.2.1 = some (ty0 k)) ∧ (∀ a, a < N → ∀ b, b < N → a ≠ b → (T a).2.1 ≠ (T b).2.1) ∧ ty0 k = ty ∧ ((T k).2.2.2 = false ∨ ((T k).2.2.2 = true ∧ M.y.name = "<init>" ∧ (T k).1 = M.y.cls))

theorem R_get {M : MI} {pc nx : Nat} {ls : List (Option Value)} {st : List Value} {σ : AHp} {kc ks : Nat} {Q : Option Value → AHp → Prop} {ci k q : Nat} {fs : List Value} {v : Value} (h : GF M pc ci k nx) (hσ : σ q = some (oB ci fs)) (hv : fs[k]? = some v) (kk : Run M nx ls (v :: st) σ kc ks Q) : Run M pc ls (.ref q :: st) σ kc ks Q := by
  obtain ⟨C0, T, N, idx, hd, rfl, hcl, hk, hin, hlk⟩ := h
  intro p l e s m args below meth c E H locs cells slots lsA C hW hS hL hc hs
  exact va_get (D := E.D) (cl := vwCl) (ci := ci) (C := C0) (T := T) (N := N) (ref := (T k).1) C.1 C.2.1 C.ts (fun w hw => wsM_LT (hin w hw)) C.own C.K (hW.P1 hσ) 0 rfl hcl k hk (C.lt hlk) (fun _ h9 => h9) (v := cv E v) (by simp [hv]) hd (kk p l e s m args below meth c E H locs cells slots lsA C hW hS hL hc hs)
theorem R_put0 {M : MI} {pc nx : Nat} {ls : List (Option Value)} {st : List Value} {σ : AHp} {kc ks : Nat} {Q : Option Value → AHp → Prop} {ci k q : Nat} {fs fs' : List Value} {v : Value} {ty : FieldType} (h : PF M pc ci k ty nx) (hσ : σ q = some (oB ci fs)) (hv : ∀ E, narrow ty (cv E v) = cv E v ∧ fits ty (cv E v) = true) (hl : Nat.ble (k + 1) fs.length = true) (hs' : fs.set k v = fs') (kk : Run M nx ls st (up σ q (oB ci fs')) kc ks Q) : Run M pc ls (v :: .ref q :: st) σ kc ks Q := by
  obtain ⟨C0, T, N, idx, ty0, hd, rfl, hcl, hk, hin, hlk, hty, hnm, rfl, hfin⟩ := h
  subst hs'
  intro p l e s m args below meth c E H locs cells slots lsA C hW hS hL hc hs
  have hlen : k < fs.length := Nat.le_of_ble_eq_true hl
  have hP := hW.P1 hσ
  have hin' : ∀ w ∈ u_ws C0 T N, w ∈ wsM M := fun w hw => wsM_LT (hin w hw)
  have hap := va_apart (own := M.y.cls) (D := E.D) C.ts hin' ty0 hty hnm C.K hcl
  obtain ⟨r, h1, cell, q1, q2, q3, q4⟩ := hP 0 _ rfl
  have hr : r = (C0, T, N) := Option.some.inj (h1.symm.trans hcl)
  subst hr
  obtain ⟨hSl, hfc, kC, hkC, hkind⟩ := C.K.1 ci _ hcl
  obtain ⟨cf, kf, fi, f, hi, hsl⟩ := hSl k hk
  have hlay := C.ts _ (hin' _ (u_in_lay hk))
  have hst := (u_facts hfc hkC (u_lays C.ts hin' hk) hi).1
  have fin : ∀ (H' : Heap) (locs' : List Loc), H'[ad E q]? = some (cell.setSlot (E.D.2 ci k) (cv E v)) → H'.size = H.size → (∀ x : Nat, x ≠ ad E q → H'[x]? = H[x]?) → va_S (AE E) s.heap H' locs' → W p l e M.rm s m args below meth c H' locs' cells slots (MQ below (Qa E Q) args s M.rm.cells M.rm.slots (AE E)) (F0 m (pc + 3) lsA (st.map (cv E))) := by
    intro H' locs' e1 e2 e3 hS'
    refine kk p l e s m args below meth c E H' locs' cells slots lsA C (hW.put (hW.obj hσ).1 hσ ?_ e2 e3) hS' hL hc hs
    show va_at E.D vwCl (ad E q, .inr (ci, (fs.set k v).map (cv E))) H'
    rw [List.map_set]
    exact ⟨_, hcl, t_OB.to (V := updV (vp_V (fs.map (cv E))) k (cv E v)) ⟨_, e1, q2, q3, t_set q4 hap hk (cv E v)⟩ (fun j _ => vp_updV_set (by simpa using hlen) (cv E v) j)⟩
  rcases hfin with hfin | ⟨hfin, hinit, hdecl⟩
  · unfold u_lay at hlay
    rw [if_neg (by rw [hfin]; decide)] at hlay
    have h6 := u_store hfc hkC hkind hlay hi (hty k hk) (hv E).1 (hv E).2
    refine W.putK C.1 C.2.1 (f := f) ⟨C.own, C.lt hlk, ⟨_, _, _, hi⟩, hst⟩ (by rw [q2]; exact h6) q1 q3 (by rw [hsl]; exact k2_hasslot (q4 k hk)) rfl rfl hd fun H' e1 e2 e3 => ?_
    rw [hsl] at e1 ⊢
    exact fin H' _ e1 e2 e3 (hS.put e2 e3 (AE_ad (hW.obj hσ).1))
  · unfold u_lay at hlay
    rw [if_pos hfin] at hlay
    have hcf : m.cls = cf := by
      obtain ⟨_, _, c', _, _, _, -, -, hf', -, -, -, hown2, -⟩ := Cond.laysFinal_spec hlay
      have e1 : c' = cf := by have := hi.symm.trans hf'; simp at this; exact this.1.symm
      rw [hdecl] at hown2
      rw [← e1]; exact Option.some.inj (C.own.symm.trans hown2)
    have h6 := u_fits hfc hkC hkind (Or.inr hlay) hi (hty k hk) (hv E).1 (hv E).2
    refine W.putFinK C.1 C.2.1 C.own (C.lt hlk) hi hst hcf (C.2.2.2.2.2.2.2.1.trans hinit) (by rw [q2]; exact h6) q1 q3 (by rw [hsl]; exact k2_hasslot (q4 k hk)) rfl rfl hd fun H' e1 e2 e3 => ?_
    rw [hsl] at e1 ⊢
    exact fin H' _ e1 e2 e3 (hS.put e2 e3 (AE_ad (hW.obj hσ).1))
theorem R_puti {M : MI} {pc nx : Nat} {ls : List (Option Value)} {st : List Value} {σ : AHp} {kc ks : Nat} {Q : Option Value → AHp → Prop} {ci k q : Nat} {fs fs' : List Value} {x : Int32} (h : PF M pc ci k .int nx) (hσ : σ q = some (oB ci fs)) (hl : Nat.ble (k + 1) fs.length = true) (hs' : fs.set k (.int x) = fs') (kk : Run M nx ls st (up σ q (oB ci fs')) kc ks Q) : Run M pc ls (.int x :: .ref q :: st) σ kc ks Q := R_put0 h hσ (fun _ => ⟨rfl, rfl⟩) hl hs' kk
theorem R_puta {M : MI} {pc nx : Nat} {ls : List (Option Value)} {st : List Value} {σ : AHp} {kc ks : Nat} {Q : Option Value → AHp → Prop} {ci k q x : Nat} {fs fs' : List Value} {ty : FieldType} (h : PF M pc ci k ty nx) (hσ : σ q = some (oB ci fs)) (hv : ∀ a, narrow ty (.ref a) = .ref a ∧ fits ty (.ref a) = true) (hl : Nat.ble (k + 1) fs.length = true) (hs' : fs.set k (.ref x) = fs') (kk : Run M nx ls st (up σ q (oB ci fs')) kc ks Q) : Run M pc ls (.ref x :: .ref q :: st) σ kc ks Q := R_put0 h hσ (fun _ => hv _) hl hs' kk
theorem Wd.arr {E : En} {U : State} {σ : AHp} {H : Heap} {q t n : Nat} {f : Nat → Int32} (h : Wd E U σ H) (h0 : q ≠ 0) (hq : σ q = some (iA t n f)) : H[ad E q]? = some (vp_cell (E.dA t) (n, .inl f)) ∧ t < 2 := h.1 q _ h0 hq
theorem Wd.arrR {E : En} {U : State} {σ : AHp} {H : Heap} {q t n : Nat} {f : Nat → Option Nat} (h : Wd E U σ H) (hq : σ q = some (rA t n f)) : q ≠ 0 ∧ H[ad E q]? = some (vp_cell (E.dA t) (n, .inr (.inr (.inr (.inr (fun j => (f j).map (ad E))))))) ∧ (t = 2 ∨ t = 3) := by
  have h0 : q ≠ 0 := by
    rintro rfl
    obtain ⟨L, xs, h1, -⟩ := h.2.1 _ hq
    cases h1
  exact ⟨h0, h.1 q _ h0 hq⟩
theorem ty0E (E : En) : (tysE E)[0]? = some (E.dA 0, .int) := rfl
theorem ty1E (E : En) : (tysE E)[1]? = some (E.dA 1, .boolean) := rfl
theorem R_iald {M : MI} {pc nx : Nat} {ls : List (Option Value)} {st : List Value} {σ : AHp} {kc ks : Nat} {Q : Option Value → AHp → Prop} {q n : Nat} {f : Nat → Int32} {i : Int32} (h : At M pc .iaload 1 nx) (hσ : σ q = some (iA 0 n f)) (hi : vp_in i n) (kk : Run M nx ls (.int (f i.toNatClampNeg) :: st) σ kc ks Q) : Run M pc ls (.int i :: .ref q :: st) σ kc ks Q := by
  obtain ⟨hd, rfl⟩ := h
  intro p l e s m args below meth c E H locs cells slots lsA C hW hS hL hc hs
  have hlt : i.toNatClampNeg < n := Nat.not_le.mp fun q => hi (Or.inr q)
  by_cases h0 : q = 0
  · subst h0
    obtain ⟨L, xs, h1, h2⟩ := hW.2.1 _ hσ
    cases h1
    obtain ⟨scr, g1, g2, g3, g4, g5⟩ := h2
    exact W.iald (v := .int (f i.toNatClampNeg)) C.1 C.2.1 (by rw [ad_0]; exact g1) g2 g3 (by rw [g4]; exact hi) (g5 _ hlt) rfl rfl hd (kk p l e s m args below meth c E H locs cells slots lsA C hW hS hL hc hs)
  · obtain ⟨h1, -⟩ := hW.arr h0 hσ
    exact W.iald (v := .int (f i.toNatClampNeg)) C.1 C.2.1 h1 ((C.K.2 0 _ (ty0E E)).1 n (fun j => .int (f j))) (fun q => by cases q) (by show ¬ (i < 0 ∨ (arrV _ _ _).slots.size ≤ _); rw [arrV_size]; exact hi) (by show (arrV _ _ _).slots[_]? = _; rw [arrV_read _ _ hlt]) rfl rfl hd (kk p l e s m args below meth c E H locs cells slots lsA C hW hS hL hc hs)
theorem R_zald {M : MI} {pc nx : Nat} {ls : List (Option Value)} {st : List Value} {σ : AHp} {kc ks : Nat} {Q : Option Value → AHp → Prop} {q n : Nat} {f : Nat → Int32} {i : Int32} (h : At M pc .baload 1 nx) (h0 : q ≠ 0) (hσ : σ q = some (iA 1 n f)) (hi : vp_in i n) (kk : Run M nx ls (.int (f i.toNatClampNeg) :: st) σ kc ks Q) : Run M pc ls (.int i :: .ref q :: st) σ kc ks Q := by
  obtain ⟨hd, rfl⟩ := h
  intro p l e s m args below meth c E H locs cells slots lsA C hW hS hL hc hs
  have hlt : i.toNatClampNeg < n := Nat.not_le.mp fun q => hi (Or.inr q)
  obtain ⟨h1, -⟩ := hW.arr h0 hσ
  exact W.zald (v := .int (f i.toNatClampNeg)) C.1 C.2.1 h1 ((C.K.2 1 _ (ty1E E)).1 n (fun j => .int (f j))) (fun q => by cases q) (by show ¬ (i < 0 ∨ (arrV _ _ _).slots.size ≤ _); rw [arrV_size]; exact hi) (by show (arrV _ _ _).slots[_]? = _; rw [arrV_read _ _ hlt]) rfl rfl hd (kk p l e s m args below meth c E H locs cells slots lsA C hW hS hL hc hs)
theorem upd_V (cA : ClassId) (n k : Nat) (f : Nat → Int32) (x : Int32) : (vp_cell cA (n, .inl f)).setSlot k (.int x) = vp_cell cA (n, .inl (upd f k x)) := by
  rw [vp_cell_i, vp_cell_i, arrV_store]
  congr 1
  funext q
  by_cases hq : q = k <;> simp [updV, upd, hq]
theorem R_iast {M : MI} {pc nx : Nat} {ls : List (Option Value)} {st : List Value} {σ : AHp} {kc ks : Nat} {Q : Option Value → AHp → Prop} {q n : Nat} {f : Nat → Int32} {i x : Int32} (h : At M pc .iastore 1 nx) (h0 : q ≠ 0) (hσ : σ q = some (iA 0 n f)) (hi : vp_in i n) (kk : Run M nx ls st (up σ q (iA 0 n (upd f i.toNatClampNeg x))) kc ks Q) : Run M pc ls (.int x :: .int i :: .ref q :: st) σ kc ks Q := by
  obtain ⟨hd, rfl⟩ := h
  intro p l e s m args below meth c E H locs cells slots lsA C hW hS hL hc hs
  obtain ⟨h1, -⟩ := hW.arr h0 hσ
  refine W.iast C.1 C.2.1 h1 ((C.K.2 0 _ (ty0E E)).1 n (fun j => .int (f j))) (fun q => by cases q) (by show ¬ (i < 0 ∨ (arrV _ _ _).slots.size ≤ _); rw [arrV_size]; exact hi) rfl rfl hd fun H1 e9 z oq => ?_
  rw [upd_V] at e9
  exact kk p l e s m args below meth c E H1 _ cells slots lsA C (hW.put h0 hσ ⟨e9, Nat.zero_lt_two⟩ z oq) (hS.put z oq (AE_ad h0)) hL hc hs
theorem R_zast {M : MI} {pc nx : Nat} {ls : List (Option Value)} {st : List Value} {σ : AHp} {kc ks : Nat} {Q : Option Value → AHp → Prop} {q n : Nat} {f : Nat → Int32} {i x : Int32} (h : At M pc .bastore 1 nx) (h0 : q ≠ 0) (hσ : σ q = some (iA 1 n f)) (hi : vp_in i n) (hx : narrow .boolean (.int x) = .int x) (kk : Run M nx ls st (up σ q (iA 1 n (upd f i.toNatClampNeg x))) kc ks Q) : Run M pc ls (.int x :: .int i :: .ref q :: st) σ kc ks Q := by
  obtain ⟨hd, rfl⟩ := h
  intro p l e s m args below meth c E H locs cells slots lsA C hW hS hL hc hs
  obtain ⟨h1, -⟩ := hW.arr h0 hσ
  refine W.zast C.1 C.2.1 h1 ((C.K.2 1 _ (ty1E E)).1 n (fun j => .int (f j))) (fun q => by cases q) (by show ¬ (i < 0 ∨ (arrV _ _ _).slots.size ≤ _); rw [arrV_size]; exact hi) rfl rfl hd fun H1 e9 z oq => ?_
  rw [hx, upd_V] at e9
  exact kk p l e s m args below meth c E H1 _ cells slots lsA C (hW.put h0 hσ ⟨e9, Nat.one_lt_two⟩ z oq) (hS.put z oq (AE_ad h0)) hL hc hs
theorem R_alen {M : MI} {pc nx : Nat} {ls : List (Option Value)} {st : List Value} {σ : AHp} {kc ks : Nat} {Q : Option Value → AHp → Prop} {q n : Nat} {f : Nat → Int32} (h : At M pc .arraylength 1 nx) (hσ : σ q = some (iA 0 n f)) (kk : Run M nx ls (.int (nI n) :: st) σ kc ks Q) : Run M pc ls (.ref q :: st) σ kc ks Q := by
  obtain ⟨hd, rfl⟩ := h
  intro p l e s m args below meth c E H locs cells slots lsA C hW hS hL hc hs
  by_cases h0 : q = 0
  · subst h0
    obtain ⟨L, xs, h1, h2⟩ := hW.2.1 _ hσ
    cases h1
    obtain ⟨scr, g1, g2, g3, g4, g5⟩ := h2
    exact W.alen (n := nI n) C.1 C.2.1 (by rw [ad_0]; exact g1) g2 (by rw [g4] <;> rfl) rfl rfl hd (kk p l e s m args below meth c E H locs cells slots lsA C hW hS hL hc hs)
  · obtain ⟨h1, -⟩ := hW.arr h0 hσ
    exact W.alen (n := nI n) C.1 C.2.1 h1 ((C.K.2 0 _ (ty0E E)).1 n (fun j => .int (f j))) (by rw [vp_cell_i, arrV_size] <;> rfl) rfl rfl hd (kk p l e s m args below meth c E H locs cells slots lsA C hW hS hL hc hs)
theorem R_aald {M : MI} {pc nx : Nat} {ls : List (Option Value)} {st : List Value} {σ : AHp} {kc ks : Nat} {Q : Option Value → AHp → Prop} {q t n r : Nat} {f : Nat → Option Nat} {i : Int32} (h : At M pc .aaload 1 nx) (hσ : σ q = some (rA t n f)) (hi : vp_in i n) (hr : f i.toNatClampNeg = some r) (kk : Run M nx ls (.ref r :: st) σ kc ks Q) : Run M pc ls (.int i :: .ref q :: st) σ kc ks Q := by
  obtain ⟨hd, rfl⟩ := h
  intro p l e s m args below meth c E H locs cells slots lsA C hW hS hL hc hs
  have hlt : i.toNatClampNeg < n := Nat.not_le.mp fun q => hi (Or.inr q)
  obtain ⟨h0, h1, ht⟩ := hW.arrR hσ
  obtain ⟨ty, hty, hrt⟩ : ∃ ty, (tysE E)[t]? = some (E.dA t, ty) ∧ ty.isReference = true := by
    rcases ht with rfl | rfl
    · exact ⟨_, rfl, rfl⟩
    · exact ⟨_, rfl, rfl⟩
  exact W.aald (v := .ref (ad E r)) (ty := ty) C.1 C.2.1 h1 ((C.K.2 t _ hty).1 n (fun j => va_rf ((f j).map (ad E)))) hrt (fun q => by cases q) (by show ¬ (i < 0 ∨ (arrV _ _ _).slots.size ≤ _); rw [arrV_size]; exact hi) (by show (arrV _ _ _).slots[_]? = _; rw [arrV_read _ _ hlt]; show some (va_rf ((f _).map (ad E))) = _; rw [hr]; rfl) rfl rfl hd (kk p l e s m args below meth c E H locs cells slots lsA C hW hS hL hc hs)
theorem upR_V (cA : ClassId) (n k : Nat) (E : En) (f : Nat → Option Nat) (x : Nat) : (vp_cell cA (n, .inr (.inr (.inr (.inr (fun j => (f j).map (ad E))))))).setSlot k (.ref (ad E x)) = vp_cell cA (n, .inr (.inr (.inr (.inr (fun j => (va_up f k (some x) j).map (ad E)))))) := by
  rw [vp_cell_q, vp_cell_q, arrV_store]
  congr 1
  funext q
  by_cases hq : q = k <;> simp [updV, va_up, hq, va_rf]
theorem R_aast {M : MI} {pc nx : Nat} {ls : List (Option Value)} {st : List Value} {σ : AHp} {kc ks : Nat} {Q : Option Value → AHp → Prop} {q t n v ci : Nat} {vs : List Value} {f : Nat → Option Nat} {i : Int32} (h : At M pc .aastore 1 nx) (hσ : σ q = some (rA t n f)) (hv : σ v = some (oB ci vs)) (htc : (t = 2 ∧ ci = 6) ∨ (t = 3 ∧ ci = 0)) (hi : vp_in i n) (kk : Run M nx ls st (up σ q (rA t n (va_up f i.toNatClampNeg (some v)))) kc ks Q) : Run M pc ls (.ref v :: .int i :: .ref q :: st) σ kc ks Q := by
  obtain ⟨hd, rfl⟩ := h
  intro p l e s m args below meth c E H locs cells slots lsA C hW hS hL hc hs
  have hlt : i.toNatClampNeg < n := Nat.not_le.mp fun q => hi (Or.inr q)
  have hi0 : ¬ i < 0 := fun q => hi (Or.inl q)
  obtain ⟨h0, h1, ht⟩ := hW.arrR hσ
  obtain ⟨r, hr, hty⟩ : ∃ r : vw_C, vwCl[ci]? = some r ∧ (tysE E)[t]? = some (E.dA t, .object r.1) := by
    rcases htc with ⟨rfl, rfl⟩ | ⟨rfl, rfl⟩
    · exact ⟨_, rfl, rfl⟩
    · exact ⟨_, rfl, rfl⟩
  obtain ⟨r', hr', cellV, g1, g2, g3, -⟩ := (hW.obj hv).2
  have hcls := (C.K.1 ci r hr).2
  obtain ⟨kA, comp, k1, k2, k3, -⟩ := (C.K.2 t _ hty).2
  have hcomp : comp = E.D.1 ci := Option.some.inj (k3.symm.trans hcls.1)
  subst hcomp
  obtain ⟨kC, hkC, -⟩ := hcls.2
  refine W.aast C.1 C.2.1 h1 (fun q h => by cases h) (fun h => by cases h) k1 k2 rfl hkC ⟨hi0, by show _ < (arrV _ _ _).slots.size; rw [arrV_size]; exact hlt⟩ g1 (fun q h => by rw [g3] at h; cases h) (by rw [g2]; exact hkC) (by rw [g2]; exact va_assign hcls) rfl rfl hd fun H1 e9 z oq => ?_
  rw [upR_V] at e9
  exact kk p l e s m args below meth c E H1 _ cells slots lsA C (hW.put h0 hσ ⟨e9, ht⟩ z oq) (hS.put z oq (AE_ad h0)) hL hc hs
def NF (M : MI) (pc ci : Nat) (N : Nat) (fs : List Value) (nx : Nat) : Prop := ∃ (C : String) (T : u_T) (idx : Nat) (ty : Nat → FieldType), decode M.code pc = .ok (.new idx, 3) ∧ pc + 3 = nx ∧ vwCl[ci]? = some (C, T, N) ∧ (∀ w ∈ u_ws C T N, w ∈ LT) ∧ (∀ k, k < N → parseFieldDescriptor (T k).2.2.1 = some (ty k)) ∧ Cond.classLink M.y.cls idx C ∈ LT ∧ Cond.instantiable C N ∈ LT ∧ Cond.initialized C ∈ LT ∧ ∀ E : En, ∀ j, j < N → defaultValue (ty j) = vp_V (fs.map (cv E)) j
theorem R_new {M : MI} {pc nx : Nat} {ls : List (Option Value)} {st : List Value} {σ : AHp} {kc ks : Nat} {Q : Option Value → AHp → Prop} {ci N : Nat} {fs : List Value} (q : Nat) (h : NF M pc ci N fs nx) (hq : q ≠ 0) (hn : σ q = none) (hp : q = 1 ∨ ∃ c, σ (q - 1) = some c) (kk : Run M nx ls (.ref q :: st) (up σ q (oB ci fs)) kc ks Q) : Run M pc ls st σ (kc + 1) (ks + N) Q := by
  obtain ⟨C0, T, idx, ty, hd, rfl, hcl, hin, hty, hcl2, hins, hini, hfs⟩ := h
  intro p l e s m args below meth c E H locs cells slots lsA C hW hS hL hc hs
  have had := hW.next hq hn hp
  have hin' : ∀ w ∈ u_ws C0 T N, w ∈ wsM M := fun w hw => wsM_LT (hin w hw)
  have hKn := C.K.1 ci _ hcl
  refine W.newcK C.1 C.2.1 C.own (C.lt hcl2) (C.lt hins) (C.lt hini) rfl hd (by omega) (by omega) hKn.2.1 rfl fun H1 kC hkC e1 z1 o1 => ?_
  have hc1 : cAt E q (oB ci fs) H1 := by
    show va_at E.D vwCl (ad E q, .inr (ci, fs.map (cv E))) H1
    rw [had]
    exact ⟨_, hcl, (u_born ty C.ts hin' hKn hkC e1 hty).to (hfs E)⟩
  have := kk p l e s m args below meth c E H1 locs (cells + 1) (slots + N) lsA C (hW.new hq had hc1 z1 o1) ⟨Nat.le_trans hS.1 (by omega), fun x h1 h2 => (o1 x (Nat.lt_of_lt_of_le h1 hS.1)).trans (hS.2.1 x h1 h2), hS.2.2⟩ hL (by omega) (by omega)
  rw [← had]
  exact this
theorem R_newi {M : MI} {pc nx : Nat} {ls : List (Option Value)} {st : List Value} {σ : AHp} {kc ks : Nat} {Q : Option Value → AHp → Prop} {N : Nat} {n : Int32} (q : Nat) (h : At M pc (.newarray .int) 2 nx) (hN : n = nI N) (hb : N < 100000) (hq : q ≠ 0) (hn : σ q = none) (hp : q = 1 ∨ ∃ c, σ (q - 1) = some c) (kk : Run M nx ls (.ref q :: st) (up σ q (iA 0 N (fun _ => 0))) kc ks Q) (hw : Cond.arrayClass .int ∈ LT) : Run M pc ls (.int n :: st) σ (kc + 1) (ks + N) Q := by
  obtain ⟨hd, rfl⟩ := h
  subst hN
  intro p l e s m args below meth c E H locs cells slots lsA C hW hS hL hc hs
  have had := hW.next hq hn hp
  refine va_newaK (atype := .int) C.1 C.2.1 (C.lt hw) rfl hd rfl (nI_pos (by omega)) (nI_clamp (by omega)) (by simp [componentBytes, newarray.typeOf]; omega) (by omega) (by omega) rfl fun H1 cA e1 z1 o1 hAr hNm => ?_
  have hcA : cA = E.dA 0 := by
    have h2 := (C.K.2 0 _ (ty0E E)).2
    exact Option.some.inj (hNm.symm.trans h2)
  subst hcA
  have hc1 : cAt E q (iA 0 N (fun _ => 0)) H1 := ⟨by rw [had]; exact e1, Nat.zero_lt_two⟩
  have := kk p l e s m args below meth c E H1 locs (cells + 1) (slots + N) lsA C (hW.new hq had hc1 z1 o1) ⟨Nat.le_trans hS.1 (by omega), fun x h1 h2 => (o1 x (Nat.lt_of_lt_of_le h1 hS.1)).trans (hS.2.1 x h1 h2), hS.2.2⟩ hL (by omega) (by omega)
  rw [← had]
  exact this
theorem R_newz {M : MI} {pc nx : Nat} {ls : List (Option Value)} {st : List Value} {σ : AHp} {kc ks : Nat} {Q : Option Value → AHp → Prop} {N : Nat} {n : Int32} (q : Nat) (h : At M pc (.newarray .boolean) 2 nx) (hN : n = nI N) (hb : N < 100000) (hq : q ≠ 0) (hn : σ q = none) (hp : q = 1 ∨ ∃ c, σ (q - 1) = some c) (kk : Run M nx ls (.ref q :: st) (up σ q (iA 1 N (fun _ => 0))) kc ks Q) (hw : Cond.arrayClass .boolean ∈ LT) : Run M pc ls (.int n :: st) σ (kc + 1) (ks + N) Q := by
  obtain ⟨hd, rfl⟩ := h
  subst hN
  intro p l e s m args below meth c E H locs cells slots lsA C hW hS hL hc hs
  have had := hW.next hq hn hp
  refine va_newaK (atype := .boolean) C.1 C.2.1 (C.lt hw) rfl hd rfl (nI_pos (by omega)) (nI_clamp (by omega)) (by simp [componentBytes, newarray.typeOf]; omega) (by omega) (by omega) rfl fun H1 cA e1 z1 o1 hAr hNm => ?_
  have hcA : cA = E.dA 1 := by
    have h2 := (C.K.2 1 _ (ty1E E)).2
    exact Option.some.inj (hNm.symm.trans h2)
  subst hcA
  have hc1 : cAt E q (iA 1 N (fun _ => 0)) H1 := ⟨by rw [had]; exact e1, Nat.one_lt_two⟩
  have := kk p l e s m args below meth c E H1 locs (cells + 1) (slots + N) lsA C (hW.new hq had hc1 z1 o1) ⟨Nat.le_trans hS.1 (by omega), fun x h1 h2 => (o1 x (Nat.lt_of_lt_of_le h1 hS.1)).trans (hS.2.1 x h1 h2), hS.2.2⟩ hL (by omega) (by omega)
  rw [← had]
  exact this
theorem R_newr {M : MI} {pc nx : Nat} {ls : List (Option Value)} {st : List Value} {σ : AHp} {kc ks : Nat} {Q : Option Value → AHp → Prop} {t N : Nat} {n : Int32} {Cn : String} {idx : Nat} (q : Nat) (h : At M pc (.anewarray idx) 3 nx) (hlk : Cond.classLink M.y.cls idx Cn ∈ LT) (hov : Cond.arrayOver (.object Cn) ∈ LT) (htc : (t = 2 ∧ Cn = RX6) ∨ (t = 3 ∧ Cn = RX0)) (hN : n = nI N) (hb : N < 100000) (hq : q ≠ 0) (hn : σ q = none) (hp : q = 1 ∨ ∃ c, σ (q - 1) = some c) (kk : Run M nx ls (.ref q :: st) (up σ q (rA t N (fun _ => none))) kc ks Q) : Run M pc ls (.int n :: st) σ (kc + 1) (ks + N) Q := by
  obtain ⟨hd, rfl⟩ := h
  subst hN
  intro p l e s m args below meth c E H locs cells slots lsA C hW hS hL hc hs
  have had := hW.next hq hn hp
  have hcl : (nI N).toNatClampNeg = N := nI_clamp (by omega)
  refine W.anew C.1 C.2.1 C.own (C.lt hlk) (C.lt hov) rfl hd rfl (nI_pos (by omega)) (by rw [hcl]; omega) (by omega) (by rw [hcl]; omega) fun cA kA comp f1 f2 f3 f4 => ?_
  rw [hcl]
  generalize hH1 : H.push ({ cls := cA, slots := Array.replicate N .null, vm := .none } : Cell) = H1
  have z1 : H1.size = H.size + 1 := by rw [← hH1, Array.size_push]
  have e1 : H1[H.size]? = some (arrV cA N (fun _ => .null)) := by rw [← hH1, Array.getElem?_push_size, ← arrV_new]
  have o1 : ∀ q : Nat, q < H.size → H1[q]? = H[q]? := fun q hq => by rw [← hH1, Array.getElem?_push, if_neg (Nat.ne_of_lt hq)]
  have ht : t = 2 ∨ t = 3 := by
    rcases htc with ⟨h, -⟩ | ⟨h, -⟩
    · exact Or.inl h
    · exact Or.inr h
  have hcA : cA = E.dA t := by
    have hty : (tysE E)[t]? = some (E.dA t, .object Cn) := by
      rcases htc with ⟨rfl, rfl⟩ | ⟨rfl, rfl⟩ <;> rfl
    obtain ⟨_, _, -, -, -, k4⟩ := (C.K.2 t _ hty).2
    exact Option.some.inj (f1.symm.trans k4)
  subst hcA
  have hc1 : cAt E q (rA t N (fun _ => none)) H1 := ⟨by rw [had]; exact e1, ht⟩
  have := kk p l e s m args below meth c E H1 locs (cells + 1) (slots + N) lsA C (hW.new hq had hc1 z1 o1) ⟨Nat.le_trans hS.1 (by omega), fun x h1 h2 => (o1 x (Nat.lt_of_lt_of_le h1 hS.1)).trans (hS.2.1 x h1 h2), hS.2.2⟩ hL (by omega) (by omega)
  rw [← had]
  exact this
theorem R_ldc2 {M : MI} {pc nx : Nat} {ls : List (Option Value)} {st : List Value} {σ : AHp} {kc ks : Nat} {Q : Option Value → AHp → Prop} {idx : Nat} {v : Int64} (h : At M pc (.ldc2_w idx) 3 nx) (hw : Cond.constantLong M.y.cls idx v ∈ LT) (kk : Run M nx ls (.long v :: st) σ kc ks Q) : Run M pc ls st σ kc ks Q := by
  obtain ⟨hd, rfl⟩ := h
  intro p l e s m args below meth c E H locs cells slots lsA C hW hS hL hc hs
  exact lv_ldc2 C.1 C.2.1 C.own (C.lt hw) hd (kk p l e s m args below meth c E H locs cells slots lsA C hW hS hL hc hs)
theorem R_ldcw {M : MI} {pc nx : Nat} {ls : List (Option Value)} {st : List Value} {σ : AHp} {kc ks : Nat} {Q : Option Value → AHp → Prop} {idx : Nat} {v : Int32} (h : At M pc (.ldc_w idx) 3 nx) (hw : Cond.constant M.y.cls idx v ∈ LT) (kk : Run M nx ls (.int v :: st) σ kc ks Q) : Run M pc ls st σ kc ks Q := by
  obtain ⟨hd, rfl⟩ := h
  intro p l e s m args below meth c E H locs cells slots lsA C hW hS hL hc hs
  exact lv_ldcw C.1 C.2.1 C.own (C.lt hw) hd (kk p l e s m args below meth c E H locs cells slots lsA C hW hS hL hc hs)
theorem R_ldcS {M : MI} {pc nx : Nat} {ls : List (Option Value)} {st : List Value} {σ : AHp} {kc ks : Nat} {Q : Option Value → AHp → Prop} (h : At M pc (.ldc 79) 2 nx) (hM : M.y.cls = RX10) (kk : Run M nx ls (.float 0 :: st) σ kc ks Q) : Run M pc ls st σ kc ks Q := by
  obtain ⟨hd, rfl⟩ := h
  intro p l e s m args below meth c E H locs cells slots lsA C hW hS hL hc hs
  have hR : vk_R RX10 79 tx0 E.sk s := C.2.2.2.2.2.2.2.2.2.2.1
  exact va_ldcS C.1 C.2.1 (by rw [← hM]; exact C.own) hR hd (kk p l e s m args below meth c E H locs cells slots lsA C hW hS hL hc hs)
end
section
/-! ===== RULES: calls and returns ===== -/
/-- what a call site needs of its callee M' (n parameters) -/
def CB (M M' : MI) (n : Nat) : Prop := Cond.code M'.y M'.code M'.mL M'.ret ∈ LT ∧ Cond.initialized M'.y.cls ∈ LT ∧ (M'.y.cls ≠ "java/lang/invoke/MethodHandle" ∧ M'.y.cls ≠ "java/lang/invoke/VarHandle" ∧ (parseMethodDescriptor M'.y.desc).map (fun d => d.parameters.length) = some n) ∧ (M'.rm.frames + 1 ≤ M.rm.frames ∧ 8 + (M'.mL + 11) + M'.rm.locals ≤ M.rm.locals)
def CV (M : MI) (pc : Nat) (M' : MI) (n ci nx : Nat) : Prop := ∃ idx, decode M.code pc = .ok (.invokevirtual idx, 3) ∧ pc + 3 = nx ∧ CB M M' n ∧ Cond.methodLink M.y.cls idx M'.y ∈ LT ∧ Cond.instanceMethod M'.y ∈ LT ∧ Cond.selects M'.y.cls M'.y M'.y ∈ LT ∧ (vwCl[ci]?).map (fun q => q.1) = some M'.y.cls
def CS (M : MI) (pc : Nat) (M' : MI) (n nx : Nat) : Prop := ∃ idx, decode M.code pc = .ok (.invokestatic idx, 3) ∧ pc + 3 = nx ∧ CB M M' n ∧ Cond.methodLink M.y.cls idx M'.y ∈ LT ∧ Cond.static M'.y ∈ LT
def CI (M : MI) (pc : Nat) (M' : MI) (n nx : Nat) : Prop := ∃ idx, decode M.code pc = .ok (.invokespecial idx, 3) ∧ pc + 3 = nx ∧ CB M M' n ∧ (Cond.methodLink M.y.cls idx M'.y ∈ LT ∨ ∃ host, Cond.methodLinkNest M.y.cls idx M'.y host ∈ LT) ∧ Cond.instanceMethod M'.y ∈ LT ∧ M'.y.name = "<init>" ∧ M'.ret = none
theorem CB.of {M M' : MI} {n : Nat} {E : En} {p : Program} {s : State} {m : MethodId} {args : Array Value} {meth : Method} {c : Code} (h : CB M M' n) (C : Cx M E p s m args meth c) {idx : Nat} (hl : Cond.methodLink M.y.cls idx M'.y ∈ LT) : CallB M.rm s args M.y.cls idx M'.y M'.code M'.mL M'.ret (wsM M') M'.rm M'.rm.cells M'.rm.slots n :=
  callB_of n C.ts (wsM_in h.1) rfl rfl rfl (C.lt h.2.1) (C.lt hl) h.2.2.1 h.2.2.2
theorem Kc.warm {E : En} {s U : State} {H : Heap} {locs : List Loc} (hS : va_S (AE E) s.heap H locs) (hU : U.heap = H) (hW : s.WarmedH U.vm) (h : Kc E s) : Kc E U := ⟨h.1.moved hW.alike, h.2.warm hS hU hW⟩
theorem Ev.blind {av : List Value} {E : En} {σ : AHp} : FrameBlind (va_Pc (av.map (cv E)) (fun U => Wd E U σ U.heap ∧ Kc E U)) := by
  intro a U g mk h
  obtain ⟨h1, h2, h3, h4⟩ := h
  exact ⟨h1, Wd.moved (u := U) (U := U.calling g mk a) (Vm.Alike.refl U.vm) h2, va_K.moved (u := U) (U := U.calling g mk a) (Vm.Alike.refl U.vm) h3, SK.same (s := U) rfl rfl h4⟩
theorem Ev.pre {M : MI} {E : En} {p : Program} {s : State} {m : MethodId} {args : Array Value} {meth : Method} {c : Code} {av : List Value} {σ : AHp} {H : Heap} {locs : List Loc} (C : Cx M E p s m args meth c) (hW : Wd E s σ H) (hS : va_S (AE E) s.heap H locs) : ∀ U : State, U.heap = H → s.WarmedH U.vm → va_Pc (av.map (cv E)) (fun U => Wd E U σ U.heap ∧ Kc E U) (av.map (cv E)).toArray U :=
  fun U hU hwU => ⟨rfl, by rw [hU]; exact hW.moved hwU.alike, Kc.warm hS hU hwU C.2.2.2.2.2.2.2.2⟩
/-- behind a call -/
theorem Run.back {M : MI} {pc : Nat} {ls : List (Option Value)} {st : List Value} {kc ks : Nat} {Q : Option Value → AHp → Prop} {Q' : Option Value → AHp → Prop} {st0 : List Value} {p : Program} {l : Launch} {e : Env} {s : State} {m : MethodId} {args : Array Value} {below : List Frame} {meth : Method} {c : Code} {E : En} {H : Heap} {locs : List Loc} {cells slots mc ms : Nat} {lsA : Array Slot} {a : Array Value} (C : Cx M E p s m args meth c) (hS : va_S (AE E) s.heap H locs) (hL : LsR E ls lsA M.mL) (hc : cells + mc + kc ≤ M.rm.cells) (hs : slots + ms + ks ≤ M.rm.slots)
    (hr : va_Run p l e M.rm s m args below meth c H locs cells slots mc ms (F0 m pc lsA st0) (st.map (cv E)) (Qa E Q' a) (AE E)) (kk : ∀ r σ', Q' r σ' → Run M (pc + 3) ls (r.toList ++ st) σ' kc ks Q) : W p l e M.rm s m args below meth c H locs cells slots (MQ below (Qa E Q) args s M.rm.cells M.rm.slots (AE E)) (F0 m pc lsA st0) := by
  intro T hT X
  obtain ⟨v, st₀, t, T', L, h0, X', hLo, e1, e2, ⟨r, σ', hv, hQ, hWd, hz, hk⟩, hgo⟩ := hr T hT X
  cases hv
  rw [h0] at hz hk
  have hS' : va_S (AE E) s.heap T'.heap (locs ++ L) := ⟨Nat.le_trans hS.1 (by rw [e1]; exact hz), fun q h1 h2 => by rw [e1, hk q (Nat.lt_of_lt_of_le h1 hS.1) h2]; exact hS.2.1 q h1 h2, fun q hq => by
      rcases List.mem_append.mp hq with h | h
      · exact hS.2.2 q h
      · exact hLo q h⟩
  have hW' : Wd E s σ' T'.heap := by
    rw [e1]
    exact hWd.moved (by have := X'.warmed.alike; rw [e2] at this; exact this.symm)
  obtain ⟨t2, a1, b1⟩ := kk r σ' hQ p l e s m args below meth c E T'.heap (locs ++ L) (cells + mc) (slots + ms) lsA C hW' hS' hL hc hs T' rfl X'
  refine ⟨t2, hgo t2 ?_, b1⟩
  have he : ({ F0 m pc lsA st0 with pc := (F0 m pc lsA st0).pc + 3, stack := (r.map (cv E)).toList ++ st.map (cv E) } : JFrame) = F0 m (pc + 3) lsA ((r.toList ++ st).map (cv E)) := by
    cases r <;> rfl
  rw [he]
  exact a1
theorem cat_sum (E : En) (st : List Value) : ((st.map (cv E)).map fun v => v.category).sum = (st.map fun v => v.category).sum := by
  rw [List.map_map]
  congr 1
  exact List.map_congr_left (fun v _ => cv_cat E v)
theorem R_callV {M : MI} {pc nx : Nat} {ls : List (Option Value)} {st : List Value} {σ : AHp} {kc ks : Nat} {Q : Option Value → AHp → Prop} {M' : MI} {n ci b : Nat} {fs As st0 : List Value} {Q' : Option Value → AHp → Prop} (h : CV M pc M' n ci nx) (hσ : σ b = some (oB ci fs)) (hev : Ev M' (.ref b :: As) σ Q') (hn : As.length = n) (hst : As.reverse ++ .ref b :: st = st0) (hW8 : Nat.ble (st.map fun v => v.category).sum 8 = true) (kk : ∀ r σ', Q' r σ' → Run M nx ls (r.toList ++ st) σ' kc ks Q) : Run M pc ls st0 σ (M'.rm.cells + kc) (M'.rm.slots + ks) Q := by
  obtain ⟨idx, hd, rfl, hB, hl, hin, hse, hci⟩ := h
  subst hst
  intro p l e s m args below meth c E H locs cells slots lsA C hW hS hL hc hs
  have hrecv : ∃ cellB : Cell, H[ad E b]? = some cellB ∧ cellB.vm.isStatics = false ∧ s.vm.findClass M'.y.cls = some cellB.cls := by
    cases hq : vwCl[ci]? with
    | none => rw [hq] at hci; cases hci
    | some q =>
      rw [hq] at hci
      have hq1 : q.1 = M'.y.cls := Option.some.inj hci
      rw [← hq1]
      exact va_recv C.K (hW.P1 hσ) hq (q0 := 0) rfl
  refine Run.back C hS hL (by omega) (by omega) (va_runV (As := As.map (cv E)) (b := ad E b) ⟨C.1, C.2.1, C.2.2.2.1, C.own, C.ts⟩ (hev l E) ⟨hB.of C hl, C.lt hin, C.lt hse⟩ ⟨Ev.blind, hrecv, Ev.pre (av := .ref b :: As) C hW hS⟩ rfl (by simpa using hn) hL.1 (by simp [cv]) (lv_room (by rw [cat_sum]; exact Nat.le_of_ble_eq_true hW8)) hd ⟨by omega, by omega⟩) kk
theorem R_callS {M : MI} {pc nx : Nat} {ls : List (Option Value)} {st : List Value} {σ : AHp} {kc ks : Nat} {Q : Option Value → AHp → Prop} {M' : MI} {n : Nat} {As st0 : List Value} {Q' : Option Value → AHp → Prop} (h : CS M pc M' n nx) (hev : Ev M' As σ Q') (hn : As.length = n) (hst : As.reverse ++ st = st0) (hW8 : Nat.ble (st.map fun v => v.category).sum 8 = true) (kk : ∀ r σ', Q' r σ' → Run M nx ls (r.toList ++ st) σ' kc ks Q) : Run M pc ls st0 σ (M'.rm.cells + kc) (M'.rm.slots + ks) Q := by
  obtain ⟨idx, hd, rfl, hB, hl, hstat⟩ := h
  subst hst
  intro p l e s m args below meth c E H locs cells slots lsA C hW hS hL hc hs
  refine Run.back C hS hL (by omega) (by omega) (va_runS (As := As.map (cv E)) ⟨C.1, C.2.1, C.2.2.2.1, C.own, C.ts⟩ (hev l E) ⟨hB.of C hl, C.lt hstat⟩ ⟨Ev.blind, Ev.pre (av := As) C hW hS⟩ rfl (by simpa using hn) hL.1 (by simp) (lv_room (by rw [cat_sum]; exact Nat.le_of_ble_eq_true hW8)) hd ⟨by omega, by omega⟩) kk
theorem R_callI {M : MI} {pc nx : Nat} {ls : List (Option Value)} {st : List Value} {σ : AHp} {kc ks : Nat} {Q : Option Value → AHp → Prop} {M' : MI} {n b : Nat} {As st0 : List Value} {Q' : Option Value → AHp → Prop} (h : CI M pc M' n nx) (hev : Ev M' (.ref b :: As) σ Q') (hn : As.length = n) (hst : As.reverse ++ .ref b :: st = st0) (hW8 : Nat.ble (st.map fun v => v.category).sum 8 = true) (kk : ∀ r σ', Q' r σ' → Run M nx ls (r.toList ++ st) σ' kc ks Q) : Run M pc ls st0 σ (M'.rm.cells + kc) (M'.rm.slots + ks) Q := by
  obtain ⟨idx, hd, rfl, hB, hl, hin, hnm, hret⟩ := h
  subst hst
  intro p l e s m args below meth c E H locs cells slots lsA C hW hS hL hc hs
  rcases hl with hl | ⟨host, hl⟩
  · refine Run.back C hS hL (by omega) (by omega) (va_runI (As := As.map (cv E)) (b := ad E b) ⟨C.1, C.2.1, C.2.2.2.1, C.own, C.ts⟩ (hev l E) ⟨by have := hB.of C hl; rw [hret] at this; exact this, hnm, C.lt hin⟩ ⟨Ev.blind, Ev.pre (av := .ref b :: As) C hW hS⟩ rfl (by simpa using hn) hL.1 (by simp [cv]) (lv_room (by rw [cat_sum]; exact Nat.le_of_ble_eq_true hW8)) hd ⟨by omega, by omega⟩) kk
  · refine Run.back C hS hL (by omega) (by omega) (va_runIN (As := As.map (cv E)) (b := ad E b) (host := host) (bytes := M'.code) (maxL := M'.mL) ⟨C.1, C.2.1, C.2.2.2.1, C.own, C.ts⟩ (hev l E) ⟨⟨⟨rfl, rfl, hB.2.2.2.1, hB.2.2.2.2, pay_in C.ts (wsM_in hB.1), (by rw [← hret]; exact List.mem_cons_self)⟩, ?_, C.lt hB.2.1, ⟨hB.2.2.1.1, hB.2.2.1.2.1⟩, ?_, C.lt hl⟩, hnm, C.lt hin⟩ ⟨Ev.blind, Ev.pre (av := .ref b :: As) C hW hS⟩ rfl (by simpa using hn) hL.1 (by simp [cv]) (lv_room (by rw [cat_sum]; exact Nat.le_of_ble_eq_true hW8)) hd ⟨by omega, by omega⟩) kk
    · have := C.lt hB.1
      rw [hret] at this
      exact this
    · intro sig hsig
      have h2 := hB.2.2.1.2.2
      rw [hsig] at h2
      exact (Option.some.inj h2).symm
/-- Object's constructor -/
theorem R_objInit {M : MI} {pc nx : Nat} {ls : List (Option Value)} {st : List Value} {σ : AHp} {kc ks : Nat} {Q : Option Value → AHp → Prop} {b idx : Nat} (h : At M pc (.invokespecial idx) 3 nx) (hl : Cond.methodLink M.y.cls idx objectInit ∈ LT) (hi : Cond.instanceMethod objectInit ∈ LT) (hco : Cond.code objectInit ⟨#[0xb1]⟩ 1 none ∈ LT) (hfr : Nat.ble 1 M.rm.frames = true) (hlo : Nat.ble ((st.map fun v => v.category).sum + 12) M.rm.locals = true) (kk : Run M nx ls st σ kc ks Q) : Run M pc ls (.ref b :: st) σ kc ks Q := by
  obtain ⟨hd, rfl⟩ := h
  intro p l e s m args below meth c E H locs cells slots lsA C hW hS hL hc hs
  exact W.objInit C.1 C.2.1 C.own (C.lt hl) (C.lt hi) (C.lt hco) rfl (by rw [C.2.2.2.1]; exact hL.1) rfl hd (Nat.le_of_ble_eq_true hfr) (by show 2 * 0 + _ + 12 ≤ _; rw [cat_sum]; simpa using Nat.le_of_ble_eq_true hlo) (kk p l e s m args below meth c E H locs cells slots lsA C hW hS hL hc hs)
/-- returns -/
theorem Run.fin {M : MI} {Q : Option Value → AHp → Prop} {E : En} {s : State} {σ : AHp} {H : Heap} {locs : List Loc} {r : Option Value} (hW : Wd E s σ H) (hS : va_S (AE E) s.heap H locs) (hQ : Q r σ) {args : Array Value} : ∀ t : State, t.heap = H → s.WarmedH t.vm → Qa E Q args s (.returned (r.map (cv E))) t := fun t ht hw => ⟨r, σ, rfl, hQ, by rw [ht]; exact hW.moved hw.alike, hS.F ht⟩
theorem R_iret {M : MI} {pc nx : Nat} {ls : List (Option Value)} {st : List Value} {σ : AHp} {kc ks : Nat} {Q : Option Value → AHp → Prop} {x : Int32} (h : At M pc .ireturn 1 nx) (hr : M.ret = some .int) (hQ : Q (some (.int x)) σ) : Run M pc ls [.int x] σ kc ks Q := by
  obtain ⟨hd, rfl⟩ := h
  intro p l e s m args below meth c E H locs cells slots lsA C hW hS hL hc hs
  refine W.widen (k := M.rm.cells) (n := M.rm.slots) (by omega) (by omega) ?_
  exact W.iret C.1 C.2.1 (C.2.2.1.trans hr) (Run.fin (M := M) (r := some (.int x)) hW hS hQ) hS.2.2 hd C.2.2.2.2.2.2.1
theorem R_zret {M : MI} {pc nx : Nat} {ls : List (Option Value)} {st : List Value} {σ : AHp} {kc ks : Nat} {Q : Option Value → AHp → Prop} {x : Int32} {ty : FieldType} (h : At M pc .ireturn 1 nx) (hr : M.ret = some ty) (hx : narrow ty (.int x) = .int x) (hQ : Q (some (.int x)) σ) : Run M pc ls [.int x] σ kc ks Q := by
  obtain ⟨hd, rfl⟩ := h
  intro p l e s m args below meth c E H locs cells slots lsA C hW hS hL hc hs
  refine W.widen (k := M.rm.cells) (n := M.rm.slots) (by omega) (by omega) ?_
  exact W.zret C.1 C.2.1 (C.2.2.1.trans hr) hx (Run.fin (M := M) (r := some (.int x)) hW hS hQ) hS.2.2 hd C.2.2.2.2.2.2.1
theorem R_lret {M : MI} {pc nx : Nat} {ls : List (Option Value)} {st : List Value} {σ : AHp} {kc ks : Nat} {Q : Option Value → AHp → Prop} {x : Int64} (h : At M pc .lreturn 1 nx) (hr : M.ret = some .long) (hQ : Q (some (.long x)) σ) : Run M pc ls [.long x] σ kc ks Q := by
  obtain ⟨hd, rfl⟩ := h
  intro p l e s m args below meth c E H locs cells slots lsA C hW hS hL hc hs
  refine W.widen (k := M.rm.cells) (n := M.rm.slots) (by omega) (by omega) ?_
  exact W.lret C.1 C.2.1 (C.2.2.1.trans hr) (Run.fin (M := M) (r := some (.long x)) hW hS hQ) hS.2.2 hd C.2.2.2.2.2.2.1
theorem R_aret {M : MI} {pc nx : Nat} {ls : List (Option Value)} {st : List Value} {σ : AHp} {kc ks : Nat} {Q : Option Value → AHp → Prop} {x : Nat} {Cn : String} (h : At M pc .areturn 1 nx) (hr : M.ret = some (.object Cn)) (hQ : Q (some (.ref x)) σ) : Run M pc ls [.ref x] σ kc ks Q := by
  obtain ⟨hd, rfl⟩ := h
  intro p l e s m args below meth c E H locs cells slots lsA C hW hS hL hc hs
  refine W.widen (k := M.rm.cells) (n := M.rm.slots) (by omega) (by omega) ?_
  exact W.aret C.1 C.2.1 (C.2.2.1.trans hr) (Or.inl ⟨_, rfl⟩) (Or.inr ⟨_, rfl⟩) (Run.fin (M := M) (r := some (.ref x)) hW hS hQ) hS.2.2 hd C.2.2.2.2.2.2.1
theorem R_vret {M : MI} {pc nx : Nat} {ls : List (Option Value)} {st : List Value} {σ : AHp} {kc ks : Nat} {Q : Option Value → AHp → Prop} (h : At M pc .return_ 1 nx) (hr : M.ret = none) (hQ : Q none σ) : Run M pc ls [] σ kc ks Q := by
  obtain ⟨hd, rfl⟩ := h
  intro p l e s m args below meth c E H locs cells slots lsA C hW hS hL hc hs
  refine W.widen (k := M.rm.cells) (n := M.rm.slots) (by omega) (by omega) ?_
  exact W.vret C.1 C.2.1 (C.2.2.1.trans hr) (Run.fin (M := M) (r := none) hW hS hQ) hS.2.2 hd C.2.2.2.2.2.2.1
/-- the locals with which a method begins -/
def entL : List Value → List (Option Value)
  | [] => []
  | v :: vs => if v.category = 2 then some v :: none :: entL vs else some v :: entL vs
theorem lv_args_in (E : En) : ∀ (vs : List Value) (i : Nat) (n : Nat) (q : Nat × Value), q ∈ lvF E i (entL vs ++ List.replicate n none) → q ∈ lv_args i (vs.map (cv E)) := by
  intro vs
  induction vs with
  | nil =>
    intro i n q hq
    obtain ⟨j, v, hj, -⟩ := mem_lvF.mp hq
    simp [entL, List.getElem?_replicate] at hj
  | cons v vs ih =>
    intro i n q hq
    by_cases hc : v.category = 2
    · simp only [entL, hc, if_true, List.cons_append, lvF, List.mem_cons] at hq
      simp only [List.map_cons, lv_args, cv_cat, hc, if_true, List.mem_cons]
      rcases hq with h | h
      · exact Or.inl h
      · exact Or.inr (ih (i + 2) n q h)
    · simp only [entL, hc, if_false, List.cons_append, lvF, List.mem_cons] at hq
      simp only [List.map_cons, lv_args, cv_cat, hc, if_false, List.mem_cons]
      rcases hq with h | h
      · exact Or.inl h
      · exact Or.inr (ih (i + 1) n q h)
theorem lg_len (E : En) (vs : List Value) : (lg_sl (vs.map (cv E))).length = (lg_sl vs).length := by
  induction vs with
  | nil => rfl
  | cons v vs ih =>
    simp only [lg_sl, List.map_cons, List.flatMap_cons, List.length_append, cv_cat] at ih ⊢
    rw [ih]
    by_cases hc : v.category = 2 <;> simp [hc]
theorem Ev.of {M : MI} {av : List Value} {σ : AHp} {Q : Option Value → AHp → Prop} {ls : List (Option Value)} (n : Nat) (hy : plainName M.y.cls = true) (hlen : Nat.ble (lg_sl av).length M.mL = true) (hls : entL av ++ List.replicate n none = ls) (hr : Run M 0 ls [] σ M.rm.cells M.rm.slots Q) : Ev M av σ Q := by
  intro l E
  refine Met.ofW (cc := M.code) (maxL := M.mL) (ret := M.ret) hy rfl ?_
  intro p e s m args below meth c s₁ B hml hv
  obtain ⟨rfl, hWd, hK⟩ := hv
  have hts := atoms_spec (ws := wsM M) B.pre
  have hown : s.vm.findClass M.y.cls = some m.cls := findClass_of_methodNamed B.named
  have hnm : meth.name = M.y.name := (name_of_methodNamed B.named B.method).1
  have hl := lv_entry (av.map (cv E)) (n := M.mL) (by rw [lg_len]; exact Nat.le_of_ble_eq_true hlen)
  rw [lg_entry_eq]
  generalize (lg_sl (av.map (cv E)) ++ List.replicate (M.mL - (lg_sl (av.map (cv E))).length) Slot.unset).toArray = lsA at hl ⊢
  have hL : LsR E ls lsA M.mL := ⟨hl.1, hl.2.1, fun q hq => hl.2.2 q (lv_args_in E av 0 n q (by rw [hls]; exact hq))⟩
  exact hr p l e s m _ below meth c E s.heap [] 0 0 lsA ⟨B.exec, B.bytes, B.returns, hml, hown, hts, B.notSynchronized, hnm, hK⟩ hWd va_S.rf hL (by show 0 + M.rm.cells ≤ M.rm.cells; omega) (by show 0 + M.rm.slots ≤ M.rm.slots; omega)
theorem Ev.mono {M : MI} {av : List Value} {σ : AHp} {Q Q' : Option Value → AHp → Prop} (h : Ev M av σ Q) (hq : ∀ r σ', Q r σ' → Q' r σ') : Ev M av σ Q' := by
  intro l E p e h1 h2 h3 s m args below h4 h5 h6 h7
  obtain ⟨k, o, g1, g2, g3, ⟨r, σ', q1, q2, q3, q4⟩, g5⟩ := h l E p e h1 h2 h3 s m args below h4 h5 h6 h7
  exact ⟨k, o, g1, g2, g3, ⟨r, σ', q1, hq r σ' q2, q3, q4⟩, g5⟩
end
