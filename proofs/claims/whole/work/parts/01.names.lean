-- ===== PART A: goes FIRST, ahead of the names: the tables' words, and 'selects' of the private methods out of them =====
/-- the name of Ways' method that takes a way in, out of the tables (a hand-in may not hold that word) -/
def nmA : String := match tables_1[653]? with
  | some (Cond.privateMethod y) => y.name
  | _ => ""
/-- a private method of a class that the tables say can be made, by its rows of tables_1 -/
def lw_okq (q : MethodName × Nat) : Prop := (q.1.cls ≠ "java/lang/invoke/MethodHandle" ∧ q.1.cls ≠ "java/lang/invoke/VarHandle") ∧ Cond.instantiable q.1.cls q.2 ∈ tables_1 ∧ Cond.privateMethod q.1 ∈ tables_1 ∧ Cond.instanceMethod q.1 ∈ tables_1
theorem lw_p0 : lw_okq (⟨"SaltToLiars$Reader", "readNumbers", "(LSaltToLiars$Letters;I)Z"⟩, 2) := ⟨⟨by decide +kernel, by decide +kernel⟩, List.mem_of_getElem? (i := 45) (by decide +kernel), List.mem_of_getElem? (i := 393) (by decide +kernel), List.mem_of_getElem? (i := 394) (by decide +kernel)⟩
theorem lw_p1 : lw_okq (⟨"SaltToLiars$Reader", "readNumber", "(LSaltToLiars$Letters;I)Z"⟩, 2) := ⟨⟨by decide +kernel, by decide +kernel⟩, List.mem_of_getElem? (i := 45) (by decide +kernel), List.mem_of_getElem? (i := 397) (by decide +kernel), List.mem_of_getElem? (i := 398) (by decide +kernel)⟩
theorem lw_p2 : lw_okq (⟨"SaltToLiars$Table", "takeGuest", "(III)Z"⟩, 9) := ⟨⟨by decide +kernel, by decide +kernel⟩, List.mem_of_getElem? (i := 264) (by decide +kernel), List.mem_of_getElem? (i := 408) (by decide +kernel), List.mem_of_getElem? (i := 409) (by decide +kernel)⟩
theorem lw_p3 : lw_okq (⟨"SaltToLiars$Table", "takeThing", "(II)Z"⟩, 9) := ⟨⟨by decide +kernel, by decide +kernel⟩, List.mem_of_getElem? (i := 264) (by decide +kernel), List.mem_of_getElem? (i := 412) (by decide +kernel), List.mem_of_getElem? (i := 413) (by decide +kernel)⟩
theorem lw_p4 : lw_okq (⟨"SaltToLiars$Table", "takeLaw", "(I)Z"⟩, 9) := ⟨⟨by decide +kernel, by decide +kernel⟩, List.mem_of_getElem? (i := 264) (by decide +kernel), List.mem_of_getElem? (i := 416) (by decide +kernel), List.mem_of_getElem? (i := 417) (by decide +kernel)⟩
theorem lw_p5 : lw_okq (⟨"SaltToLiars$Table", "takeStart", "(I)Z"⟩, 9) := ⟨⟨by decide +kernel, by decide +kernel⟩, List.mem_of_getElem? (i := 264) (by decide +kernel), List.mem_of_getElem? (i := 420) (by decide +kernel), List.mem_of_getElem? (i := 421) (by decide +kernel)⟩
theorem lw_p6 : lw_okq (⟨"SaltToLiars", "takeDraft", "()V"⟩, 12) := ⟨⟨by decide +kernel, by decide +kernel⟩, List.mem_of_getElem? (i := 21) (by decide +kernel), List.mem_of_getElem? (i := 424) (by decide +kernel), List.mem_of_getElem? (i := 425) (by decide +kernel)⟩
theorem lw_p7 : lw_okq (⟨"SaltToLiars$Table", "towardDeaf", "(ILSaltToLiars$Round;)I"⟩, 9) := ⟨⟨by decide +kernel, by decide +kernel⟩, List.mem_of_getElem? (i := 264) (by decide +kernel), List.mem_of_getElem? (i := 572) (by decide +kernel), List.mem_of_getElem? (i := 573) (by decide +kernel)⟩
theorem lw_p8 : lw_okq (⟨"SaltToLiars$Table", "shorterWay", "(II)I"⟩, 9) := ⟨⟨by decide +kernel, by decide +kernel⟩, List.mem_of_getElem? (i := 264) (by decide +kernel), List.mem_of_getElem? (i := 581) (by decide +kernel), List.mem_of_getElem? (i := 582) (by decide +kernel)⟩
theorem lw_p9 : lw_okq (⟨"SaltToLiars$Table", "upward", "(II)I"⟩, 9) := ⟨⟨by decide +kernel, by decide +kernel⟩, List.mem_of_getElem? (i := 264) (by decide +kernel), List.mem_of_getElem? (i := 585) (by decide +kernel), List.mem_of_getElem? (i := 586) (by decide +kernel)⟩
theorem lw_p10 : lw_okq (⟨"SaltToLiars$Table", "pulled", "(IIII)I"⟩, 9) := ⟨⟨by decide +kernel, by decide +kernel⟩, List.mem_of_getElem? (i := 264) (by decide +kernel), List.mem_of_getElem? (i := 593) (by decide +kernel), List.mem_of_getElem? (i := 594) (by decide +kernel)⟩
theorem lw_p11 : lw_okq (⟨"SaltToLiars$Evening", "countLiars", "(LSaltToLiars$Round;I)V"⟩, 7) := ⟨⟨by decide +kernel, by decide +kernel⟩, List.mem_of_getElem? (i := 58) (by decide +kernel), List.mem_of_getElem? (i := 598) (by decide +kernel), List.mem_of_getElem? (i := 599) (by decide +kernel)⟩
theorem lw_p12 : lw_okq (⟨"SaltToLiars", "arePair", "(II)Z"⟩, 12) := ⟨⟨by decide +kernel, by decide +kernel⟩, List.mem_of_getElem? (i := 21) (by decide +kernel), List.mem_of_getElem? (i := 607) (by decide +kernel), List.mem_of_getElem? (i := 608) (by decide +kernel)⟩
theorem lw_p13 : lw_okq (⟨"SaltToLiars$Ways", nmA, "(LSaltToLiars$Table;I)V"⟩, 8) := ⟨⟨by decide +kernel, by decide +kernel⟩, List.mem_of_getElem? (i := 138) (by decide +kernel), List.mem_of_getElem? (i := 653) (by decide +kernel), List.mem_of_getElem? (i := 654) (by decide +kernel)⟩
theorem lw_p14 : lw_okq (⟨"SaltToLiars$Ways", "mostAlike", "(LSaltToLiars$Table;III)I"⟩, 8) := ⟨⟨by decide +kernel, by decide +kernel⟩, List.mem_of_getElem? (i := 138) (by decide +kernel), List.mem_of_getElem? (i := 676) (by decide +kernel), List.mem_of_getElem? (i := 677) (by decide +kernel)⟩
theorem lw_p15 : lw_okq (⟨"SaltToLiars$Paths", "spread", "(LSaltToLiars$Table;)V"⟩, 3) := ⟨⟨by decide +kernel, by decide +kernel⟩, List.mem_of_getElem? (i := 177) (by decide +kernel), List.mem_of_getElem? (i := 698) (by decide +kernel), List.mem_of_getElem? (i := 699) (by decide +kernel)⟩
def lw_privs_1 : List (MethodName × Nat) := [(⟨"SaltToLiars$Reader", "readNumbers", "(LSaltToLiars$Letters;I)Z"⟩, 2), (⟨"SaltToLiars$Reader", "readNumber", "(LSaltToLiars$Letters;I)Z"⟩, 2), (⟨"SaltToLiars$Table", "takeGuest", "(III)Z"⟩, 9), (⟨"SaltToLiars$Table", "takeThing", "(II)Z"⟩, 9), (⟨"SaltToLiars$Table", "takeLaw", "(I)Z"⟩, 9), (⟨"SaltToLiars$Table", "takeStart", "(I)Z"⟩, 9), (⟨"SaltToLiars", "takeDraft", "()V"⟩, 12), (⟨"SaltToLiars$Table", "towardDeaf", "(ILSaltToLiars$Round;)I"⟩, 9), (⟨"SaltToLiars$Table", "shorterWay", "(II)I"⟩, 9), (⟨"SaltToLiars$Table", "upward", "(II)I"⟩, 9), (⟨"SaltToLiars$Table", "pulled", "(IIII)I"⟩, 9), (⟨"SaltToLiars$Evening", "countLiars", "(LSaltToLiars$Round;I)V"⟩, 7), (⟨"SaltToLiars", "arePair", "(II)Z"⟩, 12), (⟨"SaltToLiars$Ways", nmA, "(LSaltToLiars$Table;I)V"⟩, 8), (⟨"SaltToLiars$Ways", "mostAlike", "(LSaltToLiars$Table;III)I"⟩, 8), (⟨"SaltToLiars$Paths", "spread", "(LSaltToLiars$Table;)V"⟩, 3)]
theorem lw_r1 : ∀ q ∈ lw_privs_1, lw_okq q := List.forall_mem_cons.mpr ⟨lw_p0, List.forall_mem_cons.mpr ⟨lw_p1, List.forall_mem_cons.mpr ⟨lw_p2, List.forall_mem_cons.mpr ⟨lw_p3, List.forall_mem_cons.mpr ⟨lw_p4, List.forall_mem_cons.mpr ⟨lw_p5, List.forall_mem_cons.mpr ⟨lw_p6, List.forall_mem_cons.mpr ⟨lw_p7, List.forall_mem_cons.mpr ⟨lw_p8, List.forall_mem_cons.mpr ⟨lw_p9, List.forall_mem_cons.mpr ⟨lw_p10, List.forall_mem_cons.mpr ⟨lw_p11, List.forall_mem_cons.mpr ⟨lw_p12, List.forall_mem_cons.mpr ⟨lw_p13, List.forall_mem_cons.mpr ⟨lw_p14, List.forall_mem_cons.mpr ⟨lw_p15, fun _ h => absurd h List.not_mem_nil⟩⟩⟩⟩⟩⟩⟩⟩⟩⟩⟩⟩⟩⟩⟩⟩
theorem lw_p16 : lw_okq (⟨"SaltToLiars$Paths", "hear", "(IIZ)V"⟩, 3) := ⟨⟨by decide +kernel, by decide +kernel⟩, List.mem_of_getElem? (i := 177) (by decide +kernel), List.mem_of_getElem? (i := 710) (by decide +kernel), List.mem_of_getElem? (i := 711) (by decide +kernel)⟩
theorem lw_p17 : lw_okq (⟨"SaltToLiars$Pact", "tryWay", "(LSaltToLiars$Table;II)V"⟩, 7) := ⟨⟨by decide +kernel, by decide +kernel⟩, List.mem_of_getElem? (i := 195) (by decide +kernel), List.mem_of_getElem? (i := 747) (by decide +kernel), List.mem_of_getElem? (i := 748) (by decide +kernel)⟩
theorem lw_p18 : lw_okq (⟨"SaltToLiars$Pact", "lie", "(LSaltToLiars$Table;I)V"⟩, 7) := ⟨⟨by decide +kernel, by decide +kernel⟩, List.mem_of_getElem? (i := 195) (by decide +kernel), List.mem_of_getElem? (i := 752) (by decide +kernel), List.mem_of_getElem? (i := 753) (by decide +kernel)⟩
theorem lw_p19 : lw_okq (⟨"SaltToLiars$Pact", "gain", "(LSaltToLiars$Table;IIZ)I"⟩, 7) := ⟨⟨by decide +kernel, by decide +kernel⟩, List.mem_of_getElem? (i := 195) (by decide +kernel), List.mem_of_getElem? (i := 759) (by decide +kernel), List.mem_of_getElem? (i := 760) (by decide +kernel)⟩
theorem lw_p20 : lw_okq (⟨"SaltToLiarsModel", "begins", "()V"⟩, 16) := ⟨⟨by decide +kernel, by decide +kernel⟩, List.mem_of_getElem? (i := 836) (by decide +kernel), List.mem_of_getElem? (i := 842) (by decide +kernel), List.mem_of_getElem? (i := 843) (by decide +kernel)⟩
theorem lw_p21 : lw_okq (⟨"SaltToLiarsModel", "guestOf", "(III)V"⟩, 16) := ⟨⟨by decide +kernel, by decide +kernel⟩, List.mem_of_getElem? (i := 836) (by decide +kernel), List.mem_of_getElem? (i := 846) (by decide +kernel), List.mem_of_getElem? (i := 847) (by decide +kernel)⟩
theorem lw_p22 : lw_okq (⟨"SaltToLiarsModel", "thingOf", "(II)V"⟩, 16) := ⟨⟨by decide +kernel, by decide +kernel⟩, List.mem_of_getElem? (i := 836) (by decide +kernel), List.mem_of_getElem? (i := 850) (by decide +kernel), List.mem_of_getElem? (i := 851) (by decide +kernel)⟩
theorem lw_p23 : lw_okq (⟨"SaltToLiarsModel", "lays", "()V"⟩, 16) := ⟨⟨by decide +kernel, by decide +kernel⟩, List.mem_of_getElem? (i := 836) (by decide +kernel), List.mem_of_getElem? (i := 854) (by decide +kernel), List.mem_of_getElem? (i := 855) (by decide +kernel)⟩
theorem lw_p24 : lw_okq (⟨"SaltToLiarsModel", "reads", "()I"⟩, 16) := ⟨⟨by decide +kernel, by decide +kernel⟩, List.mem_of_getElem? (i := 836) (by decide +kernel), List.mem_of_getElem? (i := 922) (by decide +kernel), List.mem_of_getElem? (i := 923) (by decide +kernel)⟩
theorem lw_p25 : lw_okq (⟨"SaltToLiarsModel", "readsItem", "(I)Z"⟩, 16) := ⟨⟨by decide +kernel, by decide +kernel⟩, List.mem_of_getElem? (i := 836) (by decide +kernel), List.mem_of_getElem? (i := 926) (by decide +kernel), List.mem_of_getElem? (i := 927) (by decide +kernel)⟩
theorem lw_p26 : lw_okq (⟨"SaltToLiarsModel", "number", "(II)I"⟩, 16) := ⟨⟨by decide +kernel, by decide +kernel⟩, List.mem_of_getElem? (i := 836) (by decide +kernel), List.mem_of_getElem? (i := 930) (by decide +kernel), List.mem_of_getElem? (i := 931) (by decide +kernel)⟩
theorem lw_p27 : lw_okq (⟨"SaltToLiarsModel", "letterAt", "(I)I"⟩, 16) := ⟨⟨by decide +kernel, by decide +kernel⟩, List.mem_of_getElem? (i := 836) (by decide +kernel), List.mem_of_getElem? (i := 934) (by decide +kernel), List.mem_of_getElem? (i := 935) (by decide +kernel)⟩
theorem lw_p28 : lw_okq (⟨"SaltToLiarsModel", "isGuest", "(I)Z"⟩, 16) := ⟨⟨by decide +kernel, by decide +kernel⟩, List.mem_of_getElem? (i := 836) (by decide +kernel), List.mem_of_getElem? (i := 949) (by decide +kernel), List.mem_of_getElem? (i := 950) (by decide +kernel)⟩
theorem lw_p29 : lw_okq (⟨"SaltToLiarsModel", "far", "(II)I"⟩, 16) := ⟨⟨by decide +kernel, by decide +kernel⟩, List.mem_of_getElem? (i := 836) (by decide +kernel), List.mem_of_getElem? (i := 953) (by decide +kernel), List.mem_of_getElem? (i := 954) (by decide +kernel)⟩
theorem lw_p30 : lw_okq (⟨"SaltToLiarsModel", "up", "(II)I"⟩, 16) := ⟨⟨by decide +kernel, by decide +kernel⟩, List.mem_of_getElem? (i := 836) (by decide +kernel), List.mem_of_getElem? (i := 957) (by decide +kernel), List.mem_of_getElem? (i := 958) (by decide +kernel)⟩
theorem lw_p31 : lw_okq (⟨"SaltToLiarsModel", "isThing", "(I)Z"⟩, 16) := ⟨⟨by decide +kernel, by decide +kernel⟩, List.mem_of_getElem? (i := 836) (by decide +kernel), List.mem_of_getElem? (i := 965) (by decide +kernel), List.mem_of_getElem? (i := 966) (by decide +kernel)⟩
def lw_privs_2 : List (MethodName × Nat) := [(⟨"SaltToLiars$Paths", "hear", "(IIZ)V"⟩, 3), (⟨"SaltToLiars$Pact", "tryWay", "(LSaltToLiars$Table;II)V"⟩, 7), (⟨"SaltToLiars$Pact", "lie", "(LSaltToLiars$Table;I)V"⟩, 7), (⟨"SaltToLiars$Pact", "gain", "(LSaltToLiars$Table;IIZ)I"⟩, 7), (⟨"SaltToLiarsModel", "begins", "()V"⟩, 16), (⟨"SaltToLiarsModel", "guestOf", "(III)V"⟩, 16), (⟨"SaltToLiarsModel", "thingOf", "(II)V"⟩, 16), (⟨"SaltToLiarsModel", "lays", "()V"⟩, 16), (⟨"SaltToLiarsModel", "reads", "()I"⟩, 16), (⟨"SaltToLiarsModel", "readsItem", "(I)Z"⟩, 16), (⟨"SaltToLiarsModel", "number", "(II)I"⟩, 16), (⟨"SaltToLiarsModel", "letterAt", "(I)I"⟩, 16), (⟨"SaltToLiarsModel", "isGuest", "(I)Z"⟩, 16), (⟨"SaltToLiarsModel", "far", "(II)I"⟩, 16), (⟨"SaltToLiarsModel", "up", "(II)I"⟩, 16), (⟨"SaltToLiarsModel", "isThing", "(I)Z"⟩, 16)]
theorem lw_r2 : ∀ q ∈ lw_privs_2, lw_okq q := List.forall_mem_cons.mpr ⟨lw_p16, List.forall_mem_cons.mpr ⟨lw_p17, List.forall_mem_cons.mpr ⟨lw_p18, List.forall_mem_cons.mpr ⟨lw_p19, List.forall_mem_cons.mpr ⟨lw_p20, List.forall_mem_cons.mpr ⟨lw_p21, List.forall_mem_cons.mpr ⟨lw_p22, List.forall_mem_cons.mpr ⟨lw_p23, List.forall_mem_cons.mpr ⟨lw_p24, List.forall_mem_cons.mpr ⟨lw_p25, List.forall_mem_cons.mpr ⟨lw_p26, List.forall_mem_cons.mpr ⟨lw_p27, List.forall_mem_cons.mpr ⟨lw_p28, List.forall_mem_cons.mpr ⟨lw_p29, List.forall_mem_cons.mpr ⟨lw_p30, List.forall_mem_cons.mpr ⟨lw_p31, fun _ h => absurd h List.not_mem_nil⟩⟩⟩⟩⟩⟩⟩⟩⟩⟩⟩⟩⟩⟩⟩⟩
theorem lw_p32 : lw_okq (⟨"SaltToLiarsModel", "counts", "(II)I"⟩, 16) := ⟨⟨by decide +kernel, by decide +kernel⟩, List.mem_of_getElem? (i := 836) (by decide +kernel), List.mem_of_getElem? (i := 973) (by decide +kernel), List.mem_of_getElem? (i := 974) (by decide +kernel)⟩
theorem lw_p33 : lw_okq (⟨"SaltToLiarsModel", "keeps", "()V"⟩, 16) := ⟨⟨by decide +kernel, by decide +kernel⟩, List.mem_of_getElem? (i := 836) (by decide +kernel), List.mem_of_getElem? (i := 981) (by decide +kernel), List.mem_of_getElem? (i := 982) (by decide +kernel)⟩
theorem lw_p34 : lw_okq (⟨"SaltToLiarsModel", "goes", "(II)V"⟩, 16) := ⟨⟨by decide +kernel, by decide +kernel⟩, List.mem_of_getElem? (i := 836) (by decide +kernel), List.mem_of_getElem? (i := 988) (by decide +kernel), List.mem_of_getElem? (i := 989) (by decide +kernel)⟩
theorem lw_p35 : lw_okq (⟨"SaltToLiarsModel", "comes", "(IIIII)I"⟩, 16) := ⟨⟨by decide +kernel, by decide +kernel⟩, List.mem_of_getElem? (i := 836) (by decide +kernel), List.mem_of_getElem? (i := 992) (by decide +kernel), List.mem_of_getElem? (i := 993) (by decide +kernel)⟩
theorem lw_p36 : lw_okq (⟨"SaltToLiarsModel", "countsOf", "(II)I"⟩, 16) := ⟨⟨by decide +kernel, by decide +kernel⟩, List.mem_of_getElem? (i := 836) (by decide +kernel), List.mem_of_getElem? (i := 996) (by decide +kernel), List.mem_of_getElem? (i := 997) (by decide +kernel)⟩
theorem lw_p37 : lw_okq (⟨"SaltToLiarsModel", "hushed", "(II)I"⟩, 16) := ⟨⟨by decide +kernel, by decide +kernel⟩, List.mem_of_getElem? (i := 836) (by decide +kernel), List.mem_of_getElem? (i := 1003) (by decide +kernel), List.mem_of_getElem? (i := 1004) (by decide +kernel)⟩
theorem lw_p38 : lw_okq (⟨"SaltToLiarsModel", "steps", "(III)I"⟩, 16) := ⟨⟨by decide +kernel, by decide +kernel⟩, List.mem_of_getElem? (i := 836) (by decide +kernel), List.mem_of_getElem? (i := 1007) (by decide +kernel), List.mem_of_getElem? (i := 1008) (by decide +kernel)⟩
theorem lw_p39 : lw_okq (⟨"SaltToLiarsModel", "drawn", "(IIII)I"⟩, 16) := ⟨⟨by decide +kernel, by decide +kernel⟩, List.mem_of_getElem? (i := 836) (by decide +kernel), List.mem_of_getElem? (i := 1011) (by decide +kernel), List.mem_of_getElem? (i := 1012) (by decide +kernel)⟩
theorem lw_p40 : lw_okq (⟨"SaltToLiarsModel", "lies", "(I)V"⟩, 16) := ⟨⟨by decide +kernel, by decide +kernel⟩, List.mem_of_getElem? (i := 836) (by decide +kernel), List.mem_of_getElem? (i := 1015) (by decide +kernel), List.mem_of_getElem? (i := 1016) (by decide +kernel)⟩
theorem lw_p41 : lw_okq (⟨"SaltToLiarsModel", "isSo", "(II)Z"⟩, 16) := ⟨⟨by decide +kernel, by decide +kernel⟩, List.mem_of_getElem? (i := 836) (by decide +kernel), List.mem_of_getElem? (i := 1039) (by decide +kernel), List.mem_of_getElem? (i := 1040) (by decide +kernel)⟩
theorem lw_p42 : lw_okq (⟨"SaltToLiarsModel", "leads", "(II)V"⟩, 16) := ⟨⟨by decide +kernel, by decide +kernel⟩, List.mem_of_getElem? (i := 836) (by decide +kernel), List.mem_of_getElem? (i := 1060) (by decide +kernel), List.mem_of_getElem? (i := 1061) (by decide +kernel)⟩
theorem lw_p43 : lw_okq (⟨"SaltToLiarsModel", "has", "(IIIIII)I"⟩, 16) := ⟨⟨by decide +kernel, by decide +kernel⟩, List.mem_of_getElem? (i := 836) (by decide +kernel), List.mem_of_getElem? (i := 1075) (by decide +kernel), List.mem_of_getElem? (i := 1076) (by decide +kernel)⟩
def lw_privs_3 : List (MethodName × Nat) := [(⟨"SaltToLiarsModel", "counts", "(II)I"⟩, 16), (⟨"SaltToLiarsModel", "keeps", "()V"⟩, 16), (⟨"SaltToLiarsModel", "goes", "(II)V"⟩, 16), (⟨"SaltToLiarsModel", "comes", "(IIIII)I"⟩, 16), (⟨"SaltToLiarsModel", "countsOf", "(II)I"⟩, 16), (⟨"SaltToLiarsModel", "hushed", "(II)I"⟩, 16), (⟨"SaltToLiarsModel", "steps", "(III)I"⟩, 16), (⟨"SaltToLiarsModel", "drawn", "(IIII)I"⟩, 16), (⟨"SaltToLiarsModel", "lies", "(I)V"⟩, 16), (⟨"SaltToLiarsModel", "isSo", "(II)Z"⟩, 16), (⟨"SaltToLiarsModel", "leads", "(II)V"⟩, 16), (⟨"SaltToLiarsModel", "has", "(IIIIII)I"⟩, 16)]
theorem lw_r3 : ∀ q ∈ lw_privs_3, lw_okq q := List.forall_mem_cons.mpr ⟨lw_p32, List.forall_mem_cons.mpr ⟨lw_p33, List.forall_mem_cons.mpr ⟨lw_p34, List.forall_mem_cons.mpr ⟨lw_p35, List.forall_mem_cons.mpr ⟨lw_p36, List.forall_mem_cons.mpr ⟨lw_p37, List.forall_mem_cons.mpr ⟨lw_p38, List.forall_mem_cons.mpr ⟨lw_p39, List.forall_mem_cons.mpr ⟨lw_p40, List.forall_mem_cons.mpr ⟨lw_p41, List.forall_mem_cons.mpr ⟨lw_p42, List.forall_mem_cons.mpr ⟨lw_p43, fun _ h => absurd h List.not_mem_nil⟩⟩⟩⟩⟩⟩⟩⟩⟩⟩⟩⟩
def lw_privs : List (MethodName × Nat) := lw_privs_1 ++ (lw_privs_2 ++ (lw_privs_3))
def lw_tbl : List Cond := k2_sels lw_privs ++ tables_1
theorem lw_privs_ok : ∀ q ∈ lw_privs, lw_okq q := by
  show ∀ q ∈ lw_privs_1 ++ (lw_privs_2 ++ (lw_privs_3)), lw_okq q
  exact List.forall_mem_append.mpr ⟨lw_r1, List.forall_mem_append.mpr ⟨lw_r2, lw_r3⟩⟩
def RX0 : String := "SaltToLiars$Evening"
def TX0 : u_T := fun k => match k with
  | 0 => ("SaltToLiars$Evening", "salt", "I", false)
  | 1 => ("SaltToLiars$Evening", "rounds", "I", false)
  | 2 => ("SaltToLiars$Evening", "untruths", "I", false)
  | 3 => ("SaltToLiars$Evening", "trail", "I", false)
  | 4 => ("SaltToLiars$Evening", "undoable", "I", false)
  | 5 => ("SaltToLiars$Evening", "lied", "[I", true)
  | _ => ("SaltToLiars$Evening", "ring", "[LSaltToLiars$Round;", true)
def tyX0 : Nat → FieldType := fun k => match k with
  | 0 => .int
  | 1 => .int
  | 2 => .int
  | 3 => .int
  | 4 => .int
  | 5 => .array .int
  | _ => .array (.object "SaltToLiars$Round")
theorem nmX0 : ∀ a, a < 7 → ∀ b, b < 7 → a ≠ b → (TX0 a).2.1 ≠ (TX0 b).2.1 := by decide +kernel
theorem tyX0_ok : ∀ k, k < 7 → parseFieldDescriptor (TX0 k).2.2.1 = some (tyX0 k) := by decide +kernel
abbrev cX0_init : ByteArray := prog_2_method_1_code
def yX0_init : MethodName := ⟨RX0, "<init>", "()V"⟩
abbrev cX0_begin : ByteArray := prog_2_method_2_code
def yX0_begin : MethodName := ⟨RX0, "begin", "(LSaltToLiars$Table;)V"⟩
abbrev cX0_upcoming : ByteArray := prog_2_method_3_code
def yX0_upcoming : MethodName := ⟨RX0, "upcoming", "()LSaltToLiars$Round;"⟩
abbrev cX0_remembered : ByteArray := prog_2_method_4_code
def yX0_remembered : MethodName := ⟨RX0, "remembered", "()I"⟩
abbrev cX0_past : ByteArray := prog_2_method_5_code
def yX0_past : MethodName := ⟨RX0, "past", "(I)LSaltToLiars$Round;"⟩
abbrev cX0_play : ByteArray := prog_2_method_6_code
def yX0_play : MethodName := ⟨RX0, "play", "(LSaltToLiars$Table;)I"⟩
abbrev cX0_takeBack : ByteArray := prog_2_method_7_code
def yX0_takeBack : MethodName := ⟨RX0, "takeBack", "()V"⟩
abbrev cX0_countLiars : ByteArray := prog_2_method_8_code
def yX0_countLiars : MethodName := ⟨RX0, "countLiars", "(LSaltToLiars$Round;I)V"⟩
abbrev cX0_copy : ByteArray := prog_2_method_9_code
def yX0_copy : MethodName := ⟨RX0, "copy", "(LSaltToLiars$Evening;)V"⟩
def RX1 : String := "SaltToLiars$Feast"
def TX1 : u_T := fun k => match k with
  | 0 => ("SaltToLiars$Feast", "salt", "I", false)
  | 1 => ("SaltToLiars$Feast", "untruths", "I", false)
  | _ => ("SaltToLiars$Feast", "probe", "LSaltToLiars$Round;", true)
def tyX1 : Nat → FieldType := fun k => match k with
  | 0 => .int
  | 1 => .int
  | _ => .object "SaltToLiars$Round"
theorem nmX1 : ∀ a, a < 3 → ∀ b, b < 3 → a ≠ b → (TX1 a).2.1 ≠ (TX1 b).2.1 := by decide +kernel
theorem tyX1_ok : ∀ k, k < 3 → parseFieldDescriptor (TX1 k).2.2.1 = some (tyX1 k) := by decide +kernel
abbrev cX1_init : ByteArray := prog_3_method_1_code
def yX1_init : MethodName := ⟨RX1, "<init>", "()V"⟩
abbrev cX1_hold : ByteArray := prog_3_method_2_code
def yX1_hold : MethodName := ⟨RX1, "hold", "(LSaltToLiars$Table;III)V"⟩
abbrev cX1_drawn : ByteArray := prog_3_method_3_code
def yX1_drawn : MethodName := ⟨RX1, "drawn", "(II)I"⟩
def RX2 : String := "SaltToLiars$Letters"
def TX2 : u_T := fun k => match k with
  | 0 => ("SaltToLiars$Letters", "row", "[I", true)
  | _ => ("SaltToLiars$Letters", "length", "I", false)
def tyX2 : Nat → FieldType := fun k => match k with
  | 0 => .array .int
  | _ => .int
theorem nmX2 : ∀ a, a < 2 → ∀ b, b < 2 → a ≠ b → (TX2 a).2.1 ≠ (TX2 b).2.1 := by decide +kernel
theorem tyX2_ok : ∀ k, k < 2 → parseFieldDescriptor (TX2 k).2.2.1 = some (tyX2 k) := by decide +kernel
abbrev cX2_init : ByteArray := prog_4_method_1_code
def yX2_init : MethodName := ⟨RX2, "<init>", "()V"⟩
abbrev cX2_clear : ByteArray := prog_4_method_2_code
def yX2_clear : MethodName := ⟨RX2, "clear", "()V"⟩
abbrev cX2_add : ByteArray := prog_4_method_3_code
def yX2_add : MethodName := ⟨RX2, "add", "(I)Z"⟩
abbrev cX2_at : ByteArray := prog_4_method_4_code
def yX2_at : MethodName := ⟨RX2, "at", "(I)I"⟩
def RX3 : String := "SaltToLiars$Pact"
def TX3 : u_T := fun k => match k with
  | 0 => ("SaltToLiars$Pact", "steady", "I", false)
  | 1 => ("SaltToLiars$Pact", "firstSteady", "I", false)
  | 2 => ("SaltToLiars$Pact", "who", "[I", true)
  | 3 => ("SaltToLiars$Pact", "topic", "[I", true)
  | 4 => ("SaltToLiars$Pact", "firstHas", "[I", true)
  | 5 => ("SaltToLiars$Pact", "otherHas", "[I", true)
  | _ => ("SaltToLiars$Pact", "probe", "LSaltToLiars$Round;", true)
def tyX3 : Nat → FieldType := fun k => match k with
  | 0 => .int
  | 1 => .int
  | 2 => .array .int
  | 3 => .array .int
  | 4 => .array .int
  | 5 => .array .int
  | _ => .object "SaltToLiars$Round"
theorem nmX3 : ∀ a, a < 7 → ∀ b, b < 7 → a ≠ b → (TX3 a).2.1 ≠ (TX3 b).2.1 := by decide +kernel
theorem tyX3_ok : ∀ k, k < 7 → parseFieldDescriptor (TX3 k).2.2.1 = some (tyX3 k) := by decide +kernel
abbrev cX3_init : ByteArray := prog_5_method_1_code
def yX3_init : MethodName := ⟨RX3, "<init>", "()V"⟩
abbrev cX3_between : ByteArray := prog_5_method_2_code
def yX3_between : MethodName := ⟨RX3, "between", "(IIII)V"⟩
abbrev cX3_weigh : ByteArray := prog_5_method_3_code
def yX3_weigh : MethodName := ⟨RX3, "weigh", "(LSaltToLiars$Table;I)V"⟩
abbrev cX3_tryWay : ByteArray := prog_5_method_4_code
def yX3_tryWay : MethodName := ⟨RX3, "tryWay", "(LSaltToLiars$Table;II)V"⟩
abbrev cX3_lie : ByteArray := prog_5_method_5_code
def yX3_lie : MethodName := ⟨RX3, "lie", "(LSaltToLiars$Table;I)V"⟩
abbrev cX3_gain : ByteArray := prog_5_method_6_code
def yX3_gain : MethodName := ⟨RX3, "gain", "(LSaltToLiars$Table;IIZ)I"⟩
def RX4 : String := "SaltToLiars$Paths"
def TX4 : u_T := fun k => match k with
  | 0 => ("SaltToLiars$Paths", "cost", "[I", false)
  | 1 => ("SaltToLiars$Paths", "next", "[I", false)
  | _ => ("SaltToLiars$Paths", "probe", "LSaltToLiars$Round;", true)
def tyX4 : Nat → FieldType := fun k => match k with
  | 0 => .array .int
  | 1 => .array .int
  | _ => .object "SaltToLiars$Round"
theorem nmX4 : ∀ a, a < 3 → ∀ b, b < 3 → a ≠ b → (TX4 a).2.1 ≠ (TX4 b).2.1 := by decide +kernel
theorem tyX4_ok : ∀ k, k < 3 → parseFieldDescriptor (TX4 k).2.2.1 = some (tyX4 k) := by decide +kernel
abbrev cX4_init : ByteArray := prog_6_method_1_code
def yX4_init : MethodName := ⟨RX4, "<init>", "()V"⟩
abbrev cX4_begin : ByteArray := prog_6_method_2_code
def yX4_begin : MethodName := ⟨RX4, "begin", "(LSaltToLiars$Table;I)V"⟩
abbrev cX4_costOf : ByteArray := prog_6_method_3_code
def yX4_costOf : MethodName := ⟨RX4, "costOf", "(I)I"⟩
abbrev cX4_goOneRound : ByteArray := prog_6_method_4_code
def yX4_goOneRound : MethodName := ⟨RX4, "goOneRound", "(LSaltToLiars$Table;)V"⟩
abbrev cX4_hear : ByteArray := prog_6_method_5_code
def yX4_hear : MethodName := ⟨RX4, "hear", "(IIZ)V"⟩
abbrev cX4_spread : ByteArray := prog_6_method_6_code
def yX4_spread : MethodName := ⟨RX4, "spread", "(LSaltToLiars$Table;)V"⟩
def RX5 : String := "SaltToLiars$Reader"
def TX5 : u_T := fun k => match k with
  | 0 => ("SaltToLiars$Reader", "numbers", "[I", true)
  | _ => ("SaltToLiars$Reader", "place", "I", false)
def tyX5 : Nat → FieldType := fun k => match k with
  | 0 => .array .int
  | _ => .int
theorem nmX5 : ∀ a, a < 2 → ∀ b, b < 2 → a ≠ b → (TX5 a).2.1 ≠ (TX5 b).2.1 := by decide +kernel
theorem tyX5_ok : ∀ k, k < 2 → parseFieldDescriptor (TX5 k).2.2.1 = some (tyX5 k) := by decide +kernel
abbrev cX5_init : ByteArray := prog_7_method_1_code
def yX5_init : MethodName := ⟨RX5, "<init>", "()V"⟩
abbrev cX5_read : ByteArray := prog_7_method_2_code
def yX5_read : MethodName := ⟨RX5, "read", "(LSaltToLiars$Letters;LSaltToLiars$Table;)I"⟩
abbrev cX5_howMany : ByteArray := prog_7_method_3_code
def yX5_howMany : MethodName := ⟨RX5, "howMany", "(I)I"⟩
abbrev cX5_readNumbers : ByteArray := prog_7_method_4_code
def yX5_readNumbers : MethodName := ⟨RX5, "readNumbers", "(LSaltToLiars$Letters;I)Z"⟩
abbrev cX5_readNumber : ByteArray := prog_7_method_5_code
def yX5_readNumber : MethodName := ⟨RX5, "readNumber", "(LSaltToLiars$Letters;I)Z"⟩
abbrev cX5_isFigure : ByteArray := prog_7_method_6_code
def yX5_isFigure : MethodName := ⟨RX5, "isFigure", "(I)Z"⟩
def RX6 : String := "SaltToLiars$Round"
def TX6 : u_T := fun k => match k with
  | 0 => ("SaltToLiars$Round", "who", "[I", true)
  | 1 => ("SaltToLiars$Round", "topic", "[I", true)
  | 2 => ("SaltToLiars$Round", "said", "[Z", true)
  | 3 => ("SaltToLiars$Round", "spoke", "I", false)
  | 4 => ("SaltToLiars$Round", "from", "I", false)
  | 5 => ("SaltToLiars$Round", "to", "I", false)
  | 6 => ("SaltToLiars$Round", "trailBefore", "I", false)
  | _ => ("SaltToLiars$Round", "liars", "I", false)
def tyX6 : Nat → FieldType := fun k => match k with
  | 0 => .array .int
  | 1 => .array .int
  | 2 => .array .boolean
  | 3 => .int
  | 4 => .int
  | 5 => .int
  | 6 => .int
  | _ => .int
theorem nmX6 : ∀ a, a < 8 → ∀ b, b < 8 → a ≠ b → (TX6 a).2.1 ≠ (TX6 b).2.1 := by decide +kernel
theorem tyX6_ok : ∀ k, k < 8 → parseFieldDescriptor (TX6 k).2.2.1 = some (tyX6 k) := by decide +kernel
abbrev cX6_init : ByteArray := prog_8_method_1_code
def yX6_init : MethodName := ⟨RX6, "<init>", "()V"⟩
abbrev cX6_clear : ByteArray := prog_8_method_2_code
def yX6_clear : MethodName := ⟨RX6, "clear", "()V"⟩
abbrev cX6_add : ByteArray := prog_8_method_3_code
def yX6_add : MethodName := ⟨RX6, "add", "(IIZ)V"⟩
abbrev cX6_isSpeaker : ByteArray := prog_8_method_4_code
def yX6_isSpeaker : MethodName := ⟨RX6, "isSpeaker", "(I)Z"⟩
abbrev cX6_isUntruth : ByteArray := prog_8_method_5_code
def yX6_isUntruth : MethodName := ⟨RX6, "isUntruth", "(II)Z"⟩
abbrev cX6_tally : ByteArray := prog_8_method_6_code
def yX6_tally : MethodName := ⟨RX6, "tally", "(LSaltToLiars$Table;II)I"⟩
abbrev cX6_copy : ByteArray := prog_8_method_7_code
def yX6_copy : MethodName := ⟨RX6, "copy", "(LSaltToLiars$Round;)V"⟩
def RX7 : String := "SaltToLiars$Sayings"
def TX7 : u_T := fun k => match k with
  | 0 => ("SaltToLiars$Sayings", "size", "I", false)
  | 1 => ("SaltToLiars$Sayings", "who", "[I", true)
  | _ => ("SaltToLiars$Sayings", "said", "[Z", true)
def tyX7 : Nat → FieldType := fun k => match k with
  | 0 => .int
  | 1 => .array .int
  | _ => .array .boolean
theorem nmX7 : ∀ a, a < 3 → ∀ b, b < 3 → a ≠ b → (TX7 a).2.1 ≠ (TX7 b).2.1 := by decide +kernel
theorem tyX7_ok : ∀ k, k < 3 → parseFieldDescriptor (TX7 k).2.2.1 = some (tyX7 k) := by decide +kernel
abbrev cX7_init : ByteArray := prog_9_method_1_code
def yX7_init : MethodName := ⟨RX7, "<init>", "()V"⟩
abbrev cX7_clear : ByteArray := prog_9_method_2_code
def yX7_clear : MethodName := ⟨RX7, "clear", "()V"⟩
abbrev cX7_add : ByteArray := prog_9_method_3_code
def yX7_add : MethodName := ⟨RX7, "add", "(IZ)Z"⟩
abbrev cX7_chance : ByteArray := prog_9_method_4_code
def yX7_chance : MethodName := ⟨RX7, "chance", "(LSaltToLiars$Table;Z)J"⟩
abbrev cX7_commonDivisor : ByteArray := prog_9_method_5_code
def yX7_commonDivisor : MethodName := ⟨RX7, "commonDivisor", "(JJ)J"⟩
def RX8 : String := "SaltToLiars$Table"
def TX8 : u_T := fun k => match k with
  | 0 => ("SaltToLiars$Table", "guests", "I", false)
  | 1 => ("SaltToLiars$Table", "things", "I", false)
  | 2 => ("SaltToLiars$Table", "law", "I", false)
  | 3 => ("SaltToLiars$Table", "start", "I", false)
  | 4 => ("SaltToLiars$Table", "truths", "I", false)
  | 5 => ("SaltToLiars$Table", "kind", "[I", true)
  | 6 => ("SaltToLiars$Table", "honesty", "[I", true)
  | 7 => ("SaltToLiars$Table", "known", "[I", true)
  | _ => ("SaltToLiars$Table", "heft", "[I", true)
def tyX8 : Nat → FieldType := fun k => match k with
  | 0 => .int
  | 1 => .int
  | 2 => .int
  | 3 => .int
  | 4 => .int
  | 5 => .array .int
  | 6 => .array .int
  | 7 => .array .int
  | _ => .array .int
theorem nmX8 : ∀ a, a < 9 → ∀ b, b < 9 → a ≠ b → (TX8 a).2.1 ≠ (TX8 b).2.1 := by decide +kernel
theorem tyX8_ok : ∀ k, k < 9 → parseFieldDescriptor (TX8 k).2.2.1 = some (tyX8 k) := by decide +kernel
abbrev cX8_init : ByteArray := prog_10_method_1_code
def yX8_init : MethodName := ⟨RX8, "<init>", "()V"⟩
abbrev cX8_clear : ByteArray := prog_10_method_2_code
def yX8_clear : MethodName := ⟨RX8, "clear", "()V"⟩
abbrev cX8_take : ByteArray := prog_10_method_3_code
def yX8_take : MethodName := ⟨RX8, "take", "(I[I)Z"⟩
abbrev cX8_takeGuest : ByteArray := prog_10_method_4_code
def yX8_takeGuest : MethodName := ⟨RX8, "takeGuest", "(III)Z"⟩
abbrev cX8_takeThing : ByteArray := prog_10_method_5_code
def yX8_takeThing : MethodName := ⟨RX8, "takeThing", "(II)Z"⟩
abbrev cX8_takeLaw : ByteArray := prog_10_method_6_code
def yX8_takeLaw : MethodName := ⟨RX8, "takeLaw", "(I)Z"⟩
abbrev cX8_takeStart : ByteArray := prog_10_method_7_code
def yX8_takeStart : MethodName := ⟨RX8, "takeStart", "(I)Z"⟩
abbrev cX8_canBeLaid : ByteArray := prog_10_method_8_code
def yX8_canBeLaid : MethodName := ⟨RX8, "canBeLaid", "()Z"⟩
abbrev cX8_hasGuest : ByteArray := prog_10_method_9_code
def yX8_hasGuest : MethodName := ⟨RX8, "hasGuest", "(I)Z"⟩
abbrev cX8_hasThing : ByteArray := prog_10_method_10_code
def yX8_hasThing : MethodName := ⟨RX8, "hasThing", "(I)Z"⟩
abbrev cX8_allThings : ByteArray := prog_10_method_11_code
def yX8_allThings : MethodName := ⟨RX8, "allThings", "()I"⟩
abbrev cX8_isSo : ByteArray := prog_10_method_12_code
def yX8_isSo : MethodName := ⟨RX8, "isSo", "(II)Z"⟩
abbrev cX8_knows : ByteArray := prog_10_method_13_code
def yX8_knows : MethodName := ⟨RX8, "knows", "(II)Z"⟩
abbrev cX8_knownBy : ByteArray := prog_10_method_14_code
def yX8_knownBy : MethodName := ⟨RX8, "knownBy", "(I)I"⟩
abbrev cX8_tally : ByteArray := prog_10_method_15_code
def yX8_tally : MethodName := ⟨RX8, "tally", "(II)I"⟩
abbrev cX8_remainder : ByteArray := prog_10_method_16_code
def yX8_remainder : MethodName := ⟨RX8, "remainder", "(II)I"⟩
abbrev cX8_upward : ByteArray := prog_10_method_17_code
def yX8_upward : MethodName := ⟨RX8, "upward", "(II)I"⟩
abbrev cX8_apart : ByteArray := prog_10_method_18_code
def yX8_apart : MethodName := ⟨RX8, "apart", "(II)I"⟩
abbrev cX8_shorterWay : ByteArray := prog_10_method_19_code
def yX8_shorterWay : MethodName := ⟨RX8, "shorterWay", "(II)I"⟩
abbrev cX8_landing : ByteArray := prog_10_method_20_code
def yX8_landing : MethodName := ⟨RX8, "landing", "(IIILSaltToLiars$Round;)I"⟩
abbrev cX8_pulled : ByteArray := prog_10_method_21_code
def yX8_pulled : MethodName := ⟨RX8, "pulled", "(IIII)I"⟩
abbrev cX8_towardDeaf : ByteArray := prog_10_method_22_code
def yX8_towardDeaf : MethodName := ⟨RX8, "towardDeaf", "(ILSaltToLiars$Round;)I"⟩
def RX9 : String := "SaltToLiars$Ways"
def TX9 : u_T := fun k => match k with
  | 0 => ("SaltToLiars$Ways", "fitting", "I", false)
  | 1 => ("SaltToLiars$Ways", "lowest", "I", false)
  | 2 => ("SaltToLiars$Ways", "alwaysSo", "I", false)
  | 3 => ("SaltToLiars$Ways", "neverSo", "I", false)
  | 4 => ("SaltToLiars$Ways", "question", "I", false)
  | 5 => ("SaltToLiars$Ways", "worst", "I", false)
  | 6 => ("SaltToLiars$Ways", "fittingWhereSo", "[I", true)
  | _ => ("SaltToLiars$Ways", "probe", "LSaltToLiars$Round;", true)
def tyX9 : Nat → FieldType := fun k => match k with
  | 0 => .int
  | 1 => .int
  | 2 => .int
  | 3 => .int
  | 4 => .int
  | 5 => .int
  | 6 => .array .int
  | _ => .object "SaltToLiars$Round"
theorem nmX9 : ∀ a, a < 8 → ∀ b, b < 8 → a ≠ b → (TX9 a).2.1 ≠ (TX9 b).2.1 := by decide +kernel
theorem tyX9_ok : ∀ k, k < 8 → parseFieldDescriptor (TX9 k).2.2.1 = some (tyX9 k) := by decide +kernel
abbrev cX9_init : ByteArray := prog_11_method_1_code
def yX9_init : MethodName := ⟨RX9, "<init>", "()V"⟩
abbrev cX9_sift : ByteArray := prog_11_method_2_code
def yX9_sift : MethodName := ⟨RX9, "sift", "(LSaltToLiars$Table;LSaltToLiars$Evening;)V"⟩
abbrev cX9_admit : ByteArray := prog_11_method_3_code
def yX9_admit : MethodName := ⟨RX9, nmA, "(LSaltToLiars$Table;I)V"⟩
abbrev cX9_explains : ByteArray := prog_11_method_4_code
def yX9_explains : MethodName := ⟨RX9, "explains", "(LSaltToLiars$Table;LSaltToLiars$Evening;II)Z"⟩
abbrev cX9_possibleLaws : ByteArray := prog_11_method_5_code
def yX9_possibleLaws : MethodName := ⟨RX9, "possibleLaws", "(LSaltToLiars$Table;LSaltToLiars$Evening;)I"⟩
abbrev cX9_findQuestion : ByteArray := prog_11_method_6_code
def yX9_findQuestion : MethodName := ⟨RX9, "findQuestion", "(LSaltToLiars$Table;I)V"⟩
abbrev cX9_mostAlike : ByteArray := prog_11_method_7_code
def yX9_mostAlike : MethodName := ⟨RX9, "mostAlike", "(LSaltToLiars$Table;III)I"⟩
def RX10 : String := "SaltToLiars"
def TX10 : u_T := fun k => match k with
  | 0 => ("SaltToLiars", "text", "LSaltToLiars$Letters;", true)
  | 1 => ("SaltToLiars", "reader", "LSaltToLiars$Reader;", true)
  | 2 => ("SaltToLiars", "evening", "LSaltToLiars$Evening;", true)
  | 3 => ("SaltToLiars", "kept", "[LSaltToLiars$Evening;", true)
  | 4 => ("SaltToLiars", "ways", "LSaltToLiars$Ways;", true)
  | 5 => ("SaltToLiars", "paths", "LSaltToLiars$Paths;", true)
  | 6 => ("SaltToLiars", "pact", "LSaltToLiars$Pact;", true)
  | 7 => ("SaltToLiars", "told", "LSaltToLiars$Sayings;", true)
  | 8 => ("SaltToLiars", "feast", "LSaltToLiars$Feast;", true)
  | 9 => ("SaltToLiars", "table", "LSaltToLiars$Table;", false)
  | 10 => ("SaltToLiars", "draft", "LSaltToLiars$Table;", false)
  | _ => ("SaltToLiars", "keptNow", "I", false)
def tyX10 : Nat → FieldType := fun k => match k with
  | 0 => .object "SaltToLiars$Letters"
  | 1 => .object "SaltToLiars$Reader"
  | 2 => .object "SaltToLiars$Evening"
  | 3 => .array (.object "SaltToLiars$Evening")
  | 4 => .object "SaltToLiars$Ways"
  | 5 => .object "SaltToLiars$Paths"
  | 6 => .object "SaltToLiars$Pact"
  | 7 => .object "SaltToLiars$Sayings"
  | 8 => .object "SaltToLiars$Feast"
  | 9 => .object "SaltToLiars$Table"
  | 10 => .object "SaltToLiars$Table"
  | _ => .int
theorem nmX10 : ∀ a, a < 12 → ∀ b, b < 12 → a ≠ b → (TX10 a).2.1 ≠ (TX10 b).2.1 := by decide +kernel
theorem tyX10_ok : ∀ k, k < 12 → parseFieldDescriptor (TX10 k).2.2.1 = some (tyX10 k) := by decide +kernel
abbrev cX10_init : ByteArray := prog_1_method_1_code
def yX10_init : MethodName := ⟨RX10, "<init>", "()V"⟩
abbrev cX10_write : ByteArray := prog_1_method_2_code
def yX10_write : MethodName := ⟨RX10, "write", "(I)I"⟩
abbrev cX10_wipe : ByteArray := prog_1_method_3_code
def yX10_wipe : MethodName := ⟨RX10, "wipe", "()I"⟩
abbrev cX10_fault : ByteArray := prog_1_method_4_code
def yX10_fault : MethodName := ⟨RX10, "fault", "()I"⟩
abbrev cX10_lay : ByteArray := prog_1_method_5_code
def yX10_lay : MethodName := ⟨RX10, "lay", "()I"⟩
abbrev cX10_guest : ByteArray := prog_1_method_6_code
def yX10_guest : MethodName := ⟨RX10, "guest", "(II)I"⟩
abbrev cX10_thing : ByteArray := prog_1_method_7_code
def yX10_thing : MethodName := ⟨RX10, "thing", "(II)I"⟩
abbrev cX10_weight : ByteArray := prog_1_method_8_code
def yX10_weight : MethodName := ⟨RX10, "weight", "(II)I"⟩
abbrev cX10_say : ByteArray := prog_1_method_9_code
def yX10_say : MethodName := ⟨RX10, "say", "(IIZ)I"⟩
abbrev cX10_sayBoth : ByteArray := prog_1_method_10_code
def yX10_sayBoth : MethodName := ⟨RX10, "sayBoth", "(IIZIIZ)I"⟩
abbrev cX10_hush : ByteArray := prog_1_method_11_code
def yX10_hush : MethodName := ⟨RX10, "hush", "()I"⟩
abbrev cX10_undo : ByteArray := prog_1_method_12_code
def yX10_undo : MethodName := ⟨RX10, "undo", "()I"⟩
abbrev cX10_went : ByteArray := prog_1_method_13_code
def yX10_went : MethodName := ⟨RX10, "went", "(II)I"⟩
abbrev cX10_fits : ByteArray := prog_1_method_14_code
def yX10_fits : MethodName := ⟨RX10, "fits", "(I)I"⟩
abbrev cX10_sure : ByteArray := prog_1_method_15_code
def yX10_sure : MethodName := ⟨RX10, "sure", "(Z)I"⟩
abbrev cX10_laws : ByteArray := prog_1_method_16_code
def yX10_laws : MethodName := ⟨RX10, "laws", "()I"⟩
abbrev cX10_ask : ByteArray := prog_1_method_17_code
def yX10_ask : MethodName := ⟨RX10, "ask", "(I)I"⟩
abbrev cX10_fewest : ByteArray := prog_1_method_18_code
def yX10_fewest : MethodName := ⟨RX10, "fewest", "(II)I"⟩
abbrev cX10_story : ByteArray := prog_1_method_19_code
def yX10_story : MethodName := ⟨RX10, "story", "(II)I"⟩
abbrev cX10_rests : ByteArray := prog_1_method_20_code
def yX10_rests : MethodName := ⟨RX10, "rests", "(IIIII)I"⟩
abbrev cX10_tell : ByteArray := prog_1_method_21_code
def yX10_tell : MethodName := ⟨RX10, "tell", "(IZ)I"⟩
abbrev cX10_forget : ByteArray := prog_1_method_22_code
def yX10_forget : MethodName := ⟨RX10, "forget", "()I"⟩
abbrev cX10_believe : ByteArray := prog_1_method_23_code
def yX10_believe : MethodName := ⟨RX10, "believe", "(I)J"⟩
abbrev cX10_trail : ByteArray := prog_1_method_24_code
def yX10_trail : MethodName := ⟨RX10, "trail", "()I"⟩
abbrev cX10_dinner : ByteArray := prog_1_method_25_code
def yX10_dinner : MethodName := ⟨RX10, "dinner", "(III)I"⟩
abbrev cX10_keep : ByteArray := prog_1_method_26_code
def yX10_keep : MethodName := ⟨RX10, "keep", "()I"⟩
abbrev cX10_back : ByteArray := prog_1_method_27_code
def yX10_back : MethodName := ⟨RX10, "back", "()I"⟩
abbrev cX10_count : ByteArray := prog_1_method_28_code
def yX10_count : MethodName := ⟨RX10, "count", "(I)I"⟩
abbrev cX10_arePair : ByteArray := prog_1_method_29_code
def yX10_arePair : MethodName := ⟨RX10, "arePair", "(II)Z"⟩
abbrev cX10_takeDraft : ByteArray := prog_1_method_30_code
def yX10_takeDraft : MethodName := ⟨RX10, "takeDraft", "()V"⟩
def RX11 : String := "SaltToLiarsModel"
def TX11 : u_T := fun k => match k with
  | 0 => ("SaltToLiarsModel", "text", "[I", true)
  | 1 => ("SaltToLiarsModel", "typed", "I", false)
  | 2 => ("SaltToLiarsModel", "told", "[I", true)
  | 3 => ("SaltToLiarsModel", "draft", "[I", true)
  | 4 => ("SaltToLiarsModel", "s", "[I", true)
  | 5 => ("SaltToLiarsModel", "past", "[I", true)
  | 6 => ("SaltToLiarsModel", "known", "I", false)
  | 7 => ("SaltToLiarsModel", "images", "[I", true)
  | 8 => ("SaltToLiarsModel", "kept", "I", false)
  | 9 => ("SaltToLiarsModel", "sayings", "[I", true)
  | 10 => ("SaltToLiarsModel", "said", "I", false)
  | 11 => ("SaltToLiarsModel", "at", "I", false)
  | 12 => ("SaltToLiarsModel", "ways", "[I", true)
  | 13 => ("SaltToLiarsModel", "sums", "[I", true)
  | 14 => ("SaltToLiarsModel", "behind", "[I", true)
  | _ => ("SaltToLiarsModel", "held", "[I", true)
def tyX11 : Nat → FieldType := fun k => match k with
  | 0 => .array .int
  | 1 => .int
  | 2 => .array .int
  | 3 => .array .int
  | 4 => .array .int
  | 5 => .array .int
  | 6 => .int
  | 7 => .array .int
  | 8 => .int
  | 9 => .array .int
  | 10 => .int
  | 11 => .int
  | 12 => .array .int
  | 13 => .array .int
  | 14 => .array .int
  | _ => .array .int
theorem nmX11 : ∀ a, a < 16 → ∀ b, b < 16 → a ≠ b → (TX11 a).2.1 ≠ (TX11 b).2.1 := by decide +kernel
theorem tyX11_ok : ∀ k, k < 16 → parseFieldDescriptor (TX11 k).2.2.1 = some (tyX11 k) := by decide +kernel
abbrev cX11_init : ByteArray := prog_13_method_1_code
def yX11_init : MethodName := ⟨RX11, "<init>", "()V"⟩
abbrev cX11_in : ByteArray := prog_13_method_3_code
def yX11_in : MethodName := ⟨RX11, "in", "(III)Z"⟩
abbrev cX11_isGuest : ByteArray := prog_13_method_4_code
def yX11_isGuest : MethodName := ⟨RX11, "isGuest", "(I)Z"⟩
abbrev cX11_isThing : ByteArray := prog_13_method_5_code
def yX11_isThing : MethodName := ⟨RX11, "isThing", "(I)Z"⟩
abbrev cX11_ones : ByteArray := prog_13_method_6_code
def yX11_ones : MethodName := ⟨RX11, "ones", "(I)I"⟩
abbrev cX11_write : ByteArray := prog_13_method_7_code
def yX11_write : MethodName := ⟨RX11, "write", "(I)I"⟩
abbrev cX11_wipe : ByteArray := prog_13_method_8_code
def yX11_wipe : MethodName := ⟨RX11, "wipe", "()I"⟩
abbrev cX11_letterAt : ByteArray := prog_13_method_9_code
def yX11_letterAt : MethodName := ⟨RX11, "letterAt", "(I)I"⟩
abbrev cX11_isFigure : ByteArray := prog_13_method_10_code
def yX11_isFigure : MethodName := ⟨RX11, "isFigure", "(I)Z"⟩
abbrev cX11_number : ByteArray := prog_13_method_11_code
def yX11_number : MethodName := ⟨RX11, "number", "(II)I"⟩
abbrev cX11_begins : ByteArray := prog_13_method_12_code
def yX11_begins : MethodName := ⟨RX11, "begins", "()V"⟩
abbrev cX11_guestOf : ByteArray := prog_13_method_13_code
def yX11_guestOf : MethodName := ⟨RX11, "guestOf", "(III)V"⟩
abbrev cX11_thingOf : ByteArray := prog_13_method_14_code
def yX11_thingOf : MethodName := ⟨RX11, "thingOf", "(II)V"⟩
abbrev cX11_readsItem : ByteArray := prog_13_method_15_code
def yX11_readsItem : MethodName := ⟨RX11, "readsItem", "(I)Z"⟩
abbrev cX11_reads : ByteArray := prog_13_method_16_code
def yX11_reads : MethodName := ⟨RX11, "reads", "()I"⟩
abbrev cX11_fault : ByteArray := prog_13_method_17_code
def yX11_fault : MethodName := ⟨RX11, "fault", "()I"⟩
abbrev cX11_lays : ByteArray := prog_13_method_18_code
def yX11_lays : MethodName := ⟨RX11, "lays", "()V"⟩
abbrev cX11_lay : ByteArray := prog_13_method_19_code
def yX11_lay : MethodName := ⟨RX11, "lay", "()I"⟩
abbrev cX11_up : ByteArray := prog_13_method_20_code
def yX11_up : MethodName := ⟨RX11, "up", "(II)I"⟩
abbrev cX11_far : ByteArray := prog_13_method_21_code
def yX11_far : MethodName := ⟨RX11, "far", "(II)I"⟩
abbrev cX11_guest : ByteArray := prog_13_method_22_code
def yX11_guest : MethodName := ⟨RX11, "guest", "(II)I"⟩
abbrev cX11_thing : ByteArray := prog_13_method_23_code
def yX11_thing : MethodName := ⟨RX11, "thing", "(II)I"⟩
abbrev cX11_counts : ByteArray := prog_13_method_24_code
def yX11_counts : MethodName := ⟨RX11, "counts", "(II)I"⟩
abbrev cX11_weight : ByteArray := prog_13_method_25_code
def yX11_weight : MethodName := ⟨RX11, "weight", "(II)I"⟩
abbrev cX11_steps : ByteArray := prog_13_method_26_code
def yX11_steps : MethodName := ⟨RX11, "steps", "(III)I"⟩
abbrev cX11_drawn : ByteArray := prog_13_method_27_code
def yX11_drawn : MethodName := ⟨RX11, "drawn", "(IIII)I"⟩
abbrev cX11_hushed : ByteArray := prog_13_method_28_code
def yX11_hushed : MethodName := ⟨RX11, "hushed", "(II)I"⟩
abbrev cX11_saying : ByteArray := prog_13_method_29_code
def yX11_saying : MethodName := ⟨RX11, "saying", "(IIZ)I"⟩
abbrev cX11_countsOf : ByteArray := prog_13_method_30_code
def yX11_countsOf : MethodName := ⟨RX11, "countsOf", "(II)I"⟩
abbrev cX11_spokeOf : ByteArray := prog_13_method_31_code
def yX11_spokeOf : MethodName := ⟨RX11, "spokeOf", "(I)I"⟩
abbrev cX11_comes : ByteArray := prog_13_method_32_code
def yX11_comes : MethodName := ⟨RX11, "comes", "(IIIII)I"⟩
abbrev cX11_lies : ByteArray := prog_13_method_33_code
def yX11_lies : MethodName := ⟨RX11, "lies", "(I)V"⟩
abbrev cX11_goes : ByteArray := prog_13_method_34_code
def yX11_goes : MethodName := ⟨RX11, "goes", "(II)V"⟩
abbrev cX11_keeps : ByteArray := prog_13_method_35_code
def yX11_keeps : MethodName := ⟨RX11, "keeps", "()V"⟩
abbrev cX11_say : ByteArray := prog_13_method_36_code
def yX11_say : MethodName := ⟨RX11, "say", "(IIZ)I"⟩
abbrev cX11_sayBoth : ByteArray := prog_13_method_37_code
def yX11_sayBoth : MethodName := ⟨RX11, "sayBoth", "(IIZIIZ)I"⟩
abbrev cX11_hush : ByteArray := prog_13_method_38_code
def yX11_hush : MethodName := ⟨RX11, "hush", "()I"⟩
abbrev cX11_undo : ByteArray := prog_13_method_39_code
def yX11_undo : MethodName := ⟨RX11, "undo", "()I"⟩
abbrev cX11_went : ByteArray := prog_13_method_40_code
def yX11_went : MethodName := ⟨RX11, "went", "(II)I"⟩
abbrev cX11_isSo : ByteArray := prog_13_method_41_code
def yX11_isSo : MethodName := ⟨RX11, "isSo", "(II)Z"⟩
abbrev cX11_fits : ByteArray := prog_13_method_42_code
def yX11_fits : MethodName := ⟨RX11, "fits", "(I)I"⟩
abbrev cX11_sure : ByteArray := prog_13_method_43_code
def yX11_sure : MethodName := ⟨RX11, "sure", "(Z)I"⟩
abbrev cX11_laws : ByteArray := prog_13_method_44_code
def yX11_laws : MethodName := ⟨RX11, "laws", "()I"⟩
abbrev cX11_ask : ByteArray := prog_13_method_45_code
def yX11_ask : MethodName := ⟨RX11, "ask", "(I)I"⟩
abbrev cX11_leads : ByteArray := prog_13_method_46_code
def yX11_leads : MethodName := ⟨RX11, "leads", "(II)V"⟩
abbrev cX11_fewest : ByteArray := prog_13_method_47_code
def yX11_fewest : MethodName := ⟨RX11, "fewest", "(II)I"⟩
abbrev cX11_story : ByteArray := prog_13_method_48_code
def yX11_story : MethodName := ⟨RX11, "story", "(II)I"⟩
abbrev cX11_has : ByteArray := prog_13_method_49_code
def yX11_has : MethodName := ⟨RX11, "has", "(IIIIII)I"⟩
abbrev cX11_rests : ByteArray := prog_13_method_50_code
def yX11_rests : MethodName := ⟨RX11, "rests", "(IIIII)I"⟩
abbrev cX11_tell : ByteArray := prog_13_method_51_code
def yX11_tell : MethodName := ⟨RX11, "tell", "(IZ)I"⟩
abbrev cX11_forget : ByteArray := prog_13_method_52_code
def yX11_forget : MethodName := ⟨RX11, "forget", "()I"⟩
abbrev cX11_believe : ByteArray := prog_13_method_53_code
def yX11_believe : MethodName := ⟨RX11, "believe", "(I)J"⟩
abbrev cX11_trail : ByteArray := prog_13_method_54_code
def yX11_trail : MethodName := ⟨RX11, "trail", "()I"⟩
abbrev cX11_dinner : ByteArray := prog_13_method_55_code
def yX11_dinner : MethodName := ⟨RX11, "dinner", "(III)I"⟩
abbrev cX11_keep : ByteArray := prog_13_method_56_code
def yX11_keep : MethodName := ⟨RX11, "keep", "()I"⟩
abbrev cX11_back : ByteArray := prog_13_method_57_code
def yX11_back : MethodName := ⟨RX11, "back", "()I"⟩
abbrev cX11_count : ByteArray := prog_13_method_58_code
def yX11_count : MethodName := ⟨RX11, "count", "(I)I"⟩
def RJ6 : String := "java/lang/Integer"
def TJ6 : u_T := fun k => match k with
  | _ => ("", "", "", false)
def tyJ6 : Nat → FieldType := fun k => match k with
  | _ => .int
theorem nmJ6 : ∀ a, a < 0 → ∀ b, b < 0 → a ≠ b → (TJ6 a).2.1 ≠ (TJ6 b).2.1 := by decide +kernel
theorem tyJ6_ok : ∀ k, k < 0 → parseFieldDescriptor (TJ6 k).2.2.1 = some (tyJ6 k) := by decide +kernel
abbrev cJ6_bitCount_0f7a4 : ByteArray := prog_14_method_49_code
def yJ6_bitCount_0f7a4 : MethodName := ⟨RJ6, "bitCount", "(I)I"⟩
def RJ9 : String := "java/lang/Math"
def TJ9 : u_T := fun k => match k with
  | _ => ("", "", "", false)
def tyJ9 : Nat → FieldType := fun k => match k with
  | _ => .int
theorem nmJ9 : ∀ a, a < 0 → ∀ b, b < 0 → a ≠ b → (TJ9 a).2.1 ≠ (TJ9 b).2.1 := by decide +kernel
theorem tyJ9_ok : ∀ k, k < 0 → parseFieldDescriptor (TJ9 k).2.2.1 = some (tyJ9 k) := by decide +kernel
abbrev cJ9_floorMod_7cf53 : ByteArray := prog_15_method_50_code
def yJ9_floorMod_7cf53 : MethodName := ⟨RJ9, "floorMod", "(II)I"⟩
abbrev cJ9_abs_0f7a4 : ByteArray := prog_15_method_59_code
def yJ9_abs_0f7a4 : MethodName := ⟨RJ9, "abs", "(I)I"⟩
abbrev cJ9_max_7cf53 : ByteArray := prog_15_method_65_code
def yJ9_max_7cf53 : MethodName := ⟨RJ9, "max", "(II)I"⟩
abbrev cJ9_min_7cf53 : ByteArray := prog_15_method_69_code
def yJ9_min_7cf53 : MethodName := ⟨RJ9, "min", "(II)I"⟩
def RJ0 : String := "java/lang/String"
def TJ0 : u_T := fun k => match k with
  | _ => ("", "", "", false)
def tyJ0 : Nat → FieldType := fun k => match k with
  | _ => .int
theorem nmJ0 : ∀ a, a < 0 → ∀ b, b < 0 → a ≠ b → (TJ0 a).2.1 ≠ (TJ0 b).2.1 := by decide +kernel
theorem tyJ0_ok : ∀ k, k < 0 → parseFieldDescriptor (TJ0 k).2.2.1 = some (tyJ0 k) := by decide +kernel
abbrev cJ0_length_8abf5 : ByteArray := prog_16_method_54_code
def yJ0_length_8abf5 : MethodName := ⟨RJ0, "length", "()I"⟩
abbrev cJ0_charAt_5068e : ByteArray := prog_16_method_56_code
def yJ0_charAt_5068e : MethodName := ⟨RJ0, "charAt", "(I)C"⟩
abbrev cJ0_coder_7d493 : ByteArray := prog_16_method_152_code
def yJ0_coder_7d493 : MethodName := ⟨RJ0, "coder", "()B"⟩
abbrev cJ0_isLatin1_aae02 : ByteArray := prog_16_method_154_code
def yJ0_isLatin1_aae02 : MethodName := ⟨RJ0, "isLatin1", "()Z"⟩
abbrev cJ0_checkIndex_df160 : ByteArray := prog_16_method_155_code
def yJ0_checkIndex_df160 : MethodName := ⟨RJ0, "checkIndex", "(II)V"⟩
def RJ1 : String := "java/lang/StringLatin1"
def TJ1 : u_T := fun k => match k with
  | _ => ("", "", "", false)
def tyJ1 : Nat → FieldType := fun k => match k with
  | _ => .int
theorem nmJ1 : ∀ a, a < 0 → ∀ b, b < 0 → a ≠ b → (TJ1 a).2.1 ≠ (TJ1 b).2.1 := by decide +kernel
theorem tyJ1_ok : ∀ k, k < 0 → parseFieldDescriptor (TJ1 k).2.2.1 = some (tyJ1 k) := by decide +kernel
abbrev cJ1_charAt_3b067 : ByteArray := prog_17_method_2_code
def yJ1_charAt_3b067 : MethodName := ⟨RJ1, "charAt", "([BI)C"⟩
def RJ2 : String := "java/lang/StringUTF16"
def TJ2 : u_T := fun k => match k with
  | _ => ("", "", "", false)
def tyJ2 : Nat → FieldType := fun k => match k with
  | _ => .int
theorem nmJ2 : ∀ a, a < 0 → ∀ b, b < 0 → a ≠ b → (TJ2 a).2.1 ≠ (TJ2 b).2.1 := by decide +kernel
theorem tyJ2_ok : ∀ k, k < 0 → parseFieldDescriptor (TJ2 k).2.2.1 = some (tyJ2 k) := by decide +kernel
abbrev cJ2_getChar_3b067 : ByteArray := prog_18_method_5_code
def yJ2_getChar_3b067 : MethodName := ⟨RJ2, "getChar", "([BI)C"⟩
abbrev cJ2_length_9d52b : ByteArray := prog_18_method_6_code
def yJ2_length_9d52b : MethodName := ⟨RJ2, "length", "([B)I"⟩
abbrev cJ2_charAt_3b067 : ByteArray := prog_18_method_83_code
def yJ2_charAt_3b067 : MethodName := ⟨RJ2, "charAt", "([BI)C"⟩
abbrev cJ2_checkIndex_2214a : ByteArray := prog_18_method_91_code
def yJ2_checkIndex_2214a : MethodName := ⟨RJ2, "checkIndex", "(I[B)V"⟩
def RJ10 : String := "java/lang/System"
def TJ10 : u_T := fun k => match k with
  | _ => ("", "", "", false)
def tyJ10 : Nat → FieldType := fun k => match k with
  | _ => .int
theorem nmJ10 : ∀ a, a < 0 → ∀ b, b < 0 → a ≠ b → (TJ10 a).2.1 ≠ (TJ10 b).2.1 := by decide +kernel
theorem tyJ10_ok : ∀ k, k < 0 → parseFieldDescriptor (TJ10 k).2.2.1 = some (tyJ10 k) := by decide +kernel
def RJ3 : String := "jdk/internal/util/Preconditions"
def TJ3 : u_T := fun k => match k with
  | _ => ("", "", "", false)
def tyJ3 : Nat → FieldType := fun k => match k with
  | _ => .int
theorem nmJ3 : ∀ a, a < 0 → ∀ b, b < 0 → a ≠ b → (TJ3 a).2.1 ≠ (TJ3 b).2.1 := by decide +kernel
theorem tyJ3_ok : ∀ k, k < 0 → parseFieldDescriptor (TJ3 k).2.2.1 = some (tyJ3 k) := by decide +kernel
abbrev cJ3_checkIndex_8e157 : ByteArray := prog_20_method_11_code
def yJ3_checkIndex_8e157 : MethodName := ⟨RJ3, "checkIndex", "(IILjava/util/function/BiFunction;)I"⟩
def RL : String := "SaltToLiarsLaw"
abbrev cL_law : ByteArray := code
def yL_law : MethodName := ⟨RL, "law", "([I)Z"⟩
abbrev vwCl : List vw_C := [(RX0, TX0, 7), (RX1, TX1, 3), (RX2, TX2, 2), (RX3, TX3, 7), (RX4, TX4, 3), (RX5, TX5, 2), (RX6, TX6, 8), (RX7, TX7, 3), (RX8, TX8, 9), (RX9, TX9, 8), (RX10, TX10, 12), (RX11, TX11, 16)]
abbrev MI : Type := MethodName × ByteArray × Nat × Option FieldType × Room
abbrev MI.y (M : MI) : MethodName := M.1
abbrev MI.code (M : MI) : ByteArray := M.2.1
abbrev MI.mL (M : MI) : Nat := M.2.2.1
abbrev MI.ret (M : MI) : Option FieldType := M.2.2.2.1
abbrev MI.rm (M : MI) : Room := M.2.2.2.2
def LT : List Cond := lw_tbl.filter goodWord
theorem LT_in (i : Nat) {w : Cond} (h : lw_tbl[i]? = some w) (hg : goodWord w = true) : w ∈ LT := List.mem_filter.mpr ⟨List.mem_of_getElem? h, hg⟩
theorem LT_good : ∀ w ∈ LT, goodWord w = true := fun _ h => (List.mem_filter.mp h).2
theorem LT_sub : ∀ w ∈ LT, w ∈ lw_tbl := fun _ h => (List.mem_filter.mp h).1
def M_X0_init : MI := (yX0_init, cX0_init, 2, none, ⟨2, 74, 278, 40⟩)
def M_X0_begin : MI := (yX0_begin, cX0_begin, 3, none, ⟨0, 0, 0, 0⟩)
def M_X0_upcoming : MI := (yX0_upcoming, cX0_upcoming, 1, some (FieldType.object "SaltToLiars$Round"), ⟨1, 0, 0, 22⟩)
def M_X0_remembered : MI := (yX0_remembered, cX0_remembered, 1, some FieldType.int, ⟨1, 0, 0, 21⟩)
def M_X0_past : MI := (yX0_past, cX0_past, 2, some (FieldType.object "SaltToLiars$Round"), ⟨1, 0, 0, 22⟩)
def M_X0_play : MI := (yX0_play, cX0_play, 4, some FieldType.int, ⟨4, 0, 0, 97⟩)
def M_X0_takeBack : MI := (yX0_takeBack, cX0_takeBack, 2, none, ⟨2, 0, 0, 42⟩)
def M_X0_countLiars : MI := (yX0_countLiars, cX0_countLiars, 4, none, ⟨0, 0, 0, 0⟩)
def M_X0_copy : MI := (yX0_copy, cX0_copy, 3, none, ⟨1, 0, 0, 40⟩)
def M_X1_init : MI := (yX1_init, cX1_init, 1, none, ⟨2, 4, 14, 40⟩)
def M_X1_hold : MI := (yX1_hold, cX1_hold, 10, none, ⟨4, 0, 0, 97⟩)
def M_X1_drawn : MI := (yX1_drawn, cX1_drawn, 4, some FieldType.int, ⟨0, 0, 0, 0⟩)
def M_X2_init : MI := (yX2_init, cX2_init, 1, none, ⟨1, 1, 200, 20⟩)
def M_X2_clear : MI := (yX2_clear, cX2_clear, 1, none, ⟨0, 0, 0, 0⟩)
def M_X2_add : MI := (yX2_add, cX2_add, 2, some FieldType.boolean, ⟨0, 0, 0, 0⟩)
def M_X2_at : MI := (yX2_at, cX2_at, 2, some FieldType.int, ⟨0, 0, 0, 0⟩)
def M_X3_init : MI := (yX3_init, cX3_init, 1, none, ⟨2, 8, 26, 40⟩)
def M_X3_between : MI := (yX3_between, cX3_between, 5, none, ⟨0, 0, 0, 0⟩)
def M_X3_weigh : MI := (yX3_weigh, cX3_weigh, 4, none, ⟨5, 0, 0, 123⟩)
def M_X3_tryWay : MI := (yX3_tryWay, cX3_tryWay, 7, none, ⟨4, 0, 0, 97⟩)
def M_X3_lie : MI := (yX3_lie, cX3_lie, 3, none, ⟨1, 0, 0, 23⟩)
def M_X3_gain : MI := (yX3_gain, cX3_gain, 5, some FieldType.int, ⟨1, 0, 0, 22⟩)
def M_X4_init : MI := (yX4_init, cX4_init, 1, none, ⟨2, 6, 30, 40⟩)
def M_X4_begin : MI := (yX4_begin, cX4_begin, 4, none, ⟨0, 0, 0, 0⟩)
def M_X4_costOf : MI := (yX4_costOf, cX4_costOf, 2, some FieldType.int, ⟨0, 0, 0, 0⟩)
def M_X4_goOneRound : MI := (yX4_goOneRound, cX4_goOneRound, 4, none, ⟨5, 0, 0, 121⟩)
def M_X4_hear : MI := (yX4_hear, cX4_hear, 4, none, ⟨1, 0, 0, 23⟩)
def M_X4_spread : MI := (yX4_spread, cX4_spread, 5, none, ⟨4, 0, 0, 97⟩)
def M_X5_init : MI := (yX5_init, cX5_init, 1, none, ⟨1, 1, 3, 20⟩)
def M_X5_read : MI := (yX5_read, cX5_read, 6, some FieldType.int, ⟨3, 0, 0, 67⟩)
def M_X5_howMany : MI := (yX5_howMany, cX5_howMany, 1, some FieldType.int, ⟨0, 0, 0, 0⟩)
def M_X5_readNumbers : MI := (yX5_readNumbers, cX5_readNumbers, 4, some FieldType.boolean, ⟨2, 0, 0, 44⟩)
def M_X5_readNumber : MI := (yX5_readNumber, cX5_readNumber, 4, some FieldType.boolean, ⟨1, 0, 0, 21⟩)
def M_X5_isFigure : MI := (yX5_isFigure, cX5_isFigure, 1, some FieldType.boolean, ⟨0, 0, 0, 0⟩)
def M_X6_init : MI := (yX6_init, cX6_init, 1, none, ⟨1, 3, 6, 20⟩)
def M_X6_clear : MI := (yX6_clear, cX6_clear, 1, none, ⟨0, 0, 0, 0⟩)
def M_X6_add : MI := (yX6_add, cX6_add, 4, none, ⟨0, 0, 0, 0⟩)
def M_X6_isSpeaker : MI := (yX6_isSpeaker, cX6_isSpeaker, 2, some FieldType.boolean, ⟨0, 0, 0, 0⟩)
def M_X6_isUntruth : MI := (yX6_isUntruth, cX6_isUntruth, 3, some FieldType.boolean, ⟨0, 0, 0, 0⟩)
def M_X6_tally : MI := (yX6_tally, cX6_tally, 4, some FieldType.int, ⟨1, 0, 0, 22⟩)
def M_X6_copy : MI := (yX6_copy, cX6_copy, 3, none, ⟨0, 0, 0, 0⟩)
def M_X7_init : MI := (yX7_init, cX7_init, 1, none, ⟨1, 2, 16, 20⟩)
def M_X7_clear : MI := (yX7_clear, cX7_clear, 1, none, ⟨0, 0, 0, 0⟩)
def M_X7_add : MI := (yX7_add, cX7_add, 3, some FieldType.boolean, ⟨0, 0, 0, 0⟩)
def M_X7_chance : MI := (yX7_chance, cX7_chance, 11, some FieldType.long, ⟨1, 0, 0, 26⟩)
def M_X7_commonDivisor : MI := (yX7_commonDivisor, cX7_commonDivisor, 7, some FieldType.long, ⟨0, 0, 0, 0⟩)
def M_X8_init : MI := (yX8_init, cX8_init, 1, none, ⟨1, 4, 30, 20⟩)
def M_X8_clear : MI := (yX8_clear, cX8_clear, 1, none, ⟨0, 0, 0, 0⟩)
def M_X8_take : MI := (yX8_take, cX8_take, 3, some FieldType.boolean, ⟨1, 0, 0, 23⟩)
def M_X8_takeGuest : MI := (yX8_takeGuest, cX8_takeGuest, 4, some FieldType.boolean, ⟨0, 0, 0, 0⟩)
def M_X8_takeThing : MI := (yX8_takeThing, cX8_takeThing, 3, some FieldType.boolean, ⟨0, 0, 0, 0⟩)
def M_X8_takeLaw : MI := (yX8_takeLaw, cX8_takeLaw, 2, some FieldType.boolean, ⟨0, 0, 0, 0⟩)
def M_X8_takeStart : MI := (yX8_takeStart, cX8_takeStart, 2, some FieldType.boolean, ⟨0, 0, 0, 0⟩)
def M_X8_canBeLaid : MI := (yX8_canBeLaid, cX8_canBeLaid, 1, some FieldType.boolean, ⟨0, 0, 0, 0⟩)
def M_X8_hasGuest : MI := (yX8_hasGuest, cX8_hasGuest, 2, some FieldType.boolean, ⟨0, 0, 0, 0⟩)
def M_X8_hasThing : MI := (yX8_hasThing, cX8_hasThing, 2, some FieldType.boolean, ⟨0, 0, 0, 0⟩)
def M_X8_allThings : MI := (yX8_allThings, cX8_allThings, 1, some FieldType.int, ⟨0, 0, 0, 0⟩)
def M_X8_isSo : MI := (yX8_isSo, cX8_isSo, 2, some FieldType.boolean, ⟨0, 0, 0, 0⟩)
def M_X8_knows : MI := (yX8_knows, cX8_knows, 3, some FieldType.boolean, ⟨1, 0, 0, 21⟩)
def M_X8_knownBy : MI := (yX8_knownBy, cX8_knownBy, 4, some FieldType.int, ⟨1, 0, 0, 20⟩)
def M_X8_tally : MI := (yX8_tally, cX8_tally, 3, some FieldType.int, ⟨0, 0, 0, 0⟩)
def M_X8_remainder : MI := (yX8_remainder, cX8_remainder, 2, some FieldType.int, ⟨1, 0, 0, 22⟩)
def M_X8_upward : MI := (yX8_upward, cX8_upward, 3, some FieldType.int, ⟨0, 0, 0, 0⟩)
def M_X8_apart : MI := (yX8_apart, cX8_apart, 4, some FieldType.int, ⟨1, 0, 0, 21⟩)
def M_X8_shorterWay : MI := (yX8_shorterWay, cX8_shorterWay, 3, some FieldType.int, ⟨1, 0, 0, 22⟩)
def M_X8_landing : MI := (yX8_landing, cX8_landing, 7, some FieldType.int, ⟨3, 0, 0, 71⟩)
def M_X8_pulled : MI := (yX8_pulled, cX8_pulled, 8, some FieldType.int, ⟨2, 0, 0, 44⟩)
def M_X8_towardDeaf : MI := (yX8_towardDeaf, cX8_towardDeaf, 7, some FieldType.int, ⟨2, 0, 0, 44⟩)
def M_X9_init : MI := (yX9_init, cX9_init, 1, none, ⟨2, 5, 20, 40⟩)
def M_X9_sift : MI := (yX9_sift, cX9_sift, 4, none, ⟨5, 0, 0, 122⟩)
def M_X9_admit : MI := (yX9_admit, cX9_admit, 4, none, ⟨0, 0, 0, 0⟩)
def M_X9_explains : MI := (yX9_explains, cX9_explains, 6, some FieldType.boolean, ⟨4, 0, 0, 97⟩)
def M_X9_possibleLaws : MI := (yX9_possibleLaws, cX9_possibleLaws, 4, some FieldType.int, ⟨5, 0, 0, 122⟩)
def M_X9_findQuestion : MI := (yX9_findQuestion, cX9_findQuestion, 6, none, ⟨5, 0, 0, 124⟩)
def M_X9_mostAlike : MI := (yX9_mostAlike, cX9_mostAlike, 8, some FieldType.int, ⟨4, 0, 0, 97⟩)
def M_X10_init : MI := (yX10_init, cX10_init, 2, none, ⟨5, 270, 1272, 106⟩)
def M_X10_write : MI := (yX10_write, cX10_write, 2, some FieldType.int, ⟨1, 0, 0, 21⟩)
def M_X10_wipe : MI := (yX10_wipe, cX10_wipe, 2, some FieldType.int, ⟨1, 0, 0, 20⟩)
def M_X10_fault : MI := (yX10_fault, cX10_fault, 1, some FieldType.int, ⟨4, 0, 0, 92⟩)
def M_X10_lay : MI := (yX10_lay, cX10_lay, 1, some FieldType.int, ⟨4, 0, 0, 92⟩)
def M_X10_guest : MI := (yX10_guest, cX10_guest, 3, some FieldType.int, ⟨2, 0, 0, 44⟩)
def M_X10_thing : MI := (yX10_thing, cX10_thing, 3, some FieldType.int, ⟨1, 0, 0, 21⟩)
def M_X10_weight : MI := (yX10_weight, cX10_weight, 3, some FieldType.int, ⟨1, 0, 0, 22⟩)
def M_X10_say : MI := (yX10_say, cX10_say, 5, some FieldType.int, ⟨5, 0, 0, 120⟩)
def M_X10_sayBoth : MI := (yX10_sayBoth, cX10_sayBoth, 8, some FieldType.int, ⟨5, 0, 0, 120⟩)
def M_X10_hush : MI := (yX10_hush, cX10_hush, 1, some FieldType.int, ⟨5, 0, 0, 120⟩)
def M_X10_undo : MI := (yX10_undo, cX10_undo, 1, some FieldType.int, ⟨3, 0, 0, 63⟩)
def M_X10_went : MI := (yX10_went, cX10_went, 4, some FieldType.int, ⟨2, 0, 0, 43⟩)
def M_X10_fits : MI := (yX10_fits, cX10_fits, 2, some FieldType.int, ⟨6, 0, 0, 145⟩)
def M_X10_sure : MI := (yX10_sure, cX10_sure, 2, some FieldType.int, ⟨6, 0, 0, 145⟩)
def M_X10_laws : MI := (yX10_laws, cX10_laws, 1, some FieldType.int, ⟨6, 0, 0, 145⟩)
def M_X10_ask : MI := (yX10_ask, cX10_ask, 2, some FieldType.int, ⟨6, 0, 0, 149⟩)
def M_X10_fewest : MI := (yX10_fewest, cX10_fewest, 4, some FieldType.int, ⟨6, 0, 0, 144⟩)
def M_X10_story : MI := (yX10_story, cX10_story, 4, some FieldType.int, ⟨2, 0, 0, 43⟩)
def M_X10_rests : MI := (yX10_rests, cX10_rests, 6, some FieldType.int, ⟨6, 0, 0, 146⟩)
def M_X10_tell : MI := (yX10_tell, cX10_tell, 3, some FieldType.int, ⟨1, 0, 0, 22⟩)
def M_X10_forget : MI := (yX10_forget, cX10_forget, 2, some FieldType.int, ⟨1, 0, 0, 20⟩)
def M_X10_believe : MI := (yX10_believe, cX10_believe, 2, some FieldType.long, ⟨2, 0, 0, 56⟩)
def M_X10_trail : MI := (yX10_trail, cX10_trail, 1, some FieldType.int, ⟨0, 0, 0, 0⟩)
def M_X10_dinner : MI := (yX10_dinner, cX10_dinner, 4, some FieldType.int, ⟨5, 0, 0, 126⟩)
def M_X10_keep : MI := (yX10_keep, cX10_keep, 1, some FieldType.int, ⟨2, 0, 0, 62⟩)
def M_X10_back : MI := (yX10_back, cX10_back, 1, some FieldType.int, ⟨2, 0, 0, 62⟩)
def M_X10_count : MI := (yX10_count, cX10_count, 2, some FieldType.int, ⟨0, 0, 0, 0⟩)
def M_X10_arePair : MI := (yX10_arePair, cX10_arePair, 3, some FieldType.boolean, ⟨1, 0, 0, 21⟩)
def M_X10_takeDraft : MI := (yX10_takeDraft, cX10_takeDraft, 2, none, ⟨1, 0, 0, 22⟩)
def M_X11_init : MI := (yX11_init, cX11_init, 1, none, ⟨1, 11, 818, 24⟩)
def M_X11_in : MI := (yX11_in, cX11_in, 3, some FieldType.boolean, ⟨0, 0, 0, 0⟩)
def M_X11_isGuest : MI := (yX11_isGuest, cX11_isGuest, 2, some FieldType.boolean, ⟨1, 0, 0, 22⟩)
def M_X11_isThing : MI := (yX11_isThing, cX11_isThing, 2, some FieldType.boolean, ⟨1, 0, 0, 22⟩)
def M_X11_ones : MI := (yX11_ones, cX11_ones, 3, some FieldType.int, ⟨0, 0, 0, 0⟩)
def M_X11_write : MI := (yX11_write, cX11_write, 2, some FieldType.int, ⟨1, 0, 0, 22⟩)
def M_X11_wipe : MI := (yX11_wipe, cX11_wipe, 2, some FieldType.int, ⟨0, 0, 0, 0⟩)
def M_X11_letterAt : MI := (yX11_letterAt, cX11_letterAt, 2, some FieldType.int, ⟨0, 0, 0, 0⟩)
def M_X11_isFigure : MI := (yX11_isFigure, cX11_isFigure, 1, some FieldType.boolean, ⟨1, 0, 0, 22⟩)
def M_X11_number : MI := (yX11_number, cX11_number, 5, some FieldType.int, ⟨2, 0, 0, 42⟩)
def M_X11_begins : MI := (yX11_begins, cX11_begins, 2, none, ⟨0, 0, 0, 0⟩)
def M_X11_guestOf : MI := (yX11_guestOf, cX11_guestOf, 5, none, ⟨0, 0, 0, 0⟩)
def M_X11_thingOf : MI := (yX11_thingOf, cX11_thingOf, 4, none, ⟨0, 0, 0, 0⟩)
def M_X11_readsItem : MI := (yX11_readsItem, cX11_readsItem, 5, some FieldType.boolean, ⟨3, 0, 0, 66⟩)
def M_X11_reads : MI := (yX11_reads, cX11_reads, 2, some FieldType.int, ⟨4, 0, 0, 90⟩)
def M_X11_fault : MI := (yX11_fault, cX11_fault, 1, some FieldType.int, ⟨5, 0, 0, 111⟩)
def M_X11_lays : MI := (yX11_lays, cX11_lays, 2, none, ⟨0, 0, 0, 0⟩)
def M_X11_lay : MI := (yX11_lay, cX11_lay, 1, some FieldType.int, ⟨5, 0, 0, 111⟩)
def M_X11_up : MI := (yX11_up, cX11_up, 3, some FieldType.int, ⟨0, 0, 0, 0⟩)
def M_X11_far : MI := (yX11_far, cX11_far, 4, some FieldType.int, ⟨1, 0, 0, 22⟩)
def M_X11_guest : MI := (yX11_guest, cX11_guest, 3, some FieldType.int, ⟨2, 0, 0, 45⟩)
def M_X11_thing : MI := (yX11_thing, cX11_thing, 3, some FieldType.int, ⟨2, 0, 0, 43⟩)
def M_X11_counts : MI := (yX11_counts, cX11_counts, 5, some FieldType.int, ⟨0, 0, 0, 0⟩)
def M_X11_weight : MI := (yX11_weight, cX11_weight, 3, some FieldType.int, ⟨2, 0, 0, 43⟩)
def M_X11_steps : MI := (yX11_steps, cX11_steps, 6, some FieldType.int, ⟨1, 0, 0, 22⟩)
def M_X11_drawn : MI := (yX11_drawn, cX11_drawn, 7, some FieldType.int, ⟨2, 0, 0, 47⟩)
def M_X11_hushed : MI := (yX11_hushed, cX11_hushed, 6, some FieldType.int, ⟨2, 0, 0, 47⟩)
def M_X11_saying : MI := (yX11_saying, cX11_saying, 3, some FieldType.int, ⟨0, 0, 0, 0⟩)
def M_X11_countsOf : MI := (yX11_countsOf, cX11_countsOf, 4, some FieldType.int, ⟨1, 0, 0, 24⟩)
def M_X11_spokeOf : MI := (yX11_spokeOf, cX11_spokeOf, 1, some FieldType.int, ⟨0, 0, 0, 0⟩)
def M_X11_comes : MI := (yX11_comes, cX11_comes, 8, some FieldType.int, ⟨3, 0, 0, 73⟩)
def M_X11_lies : MI := (yX11_lies, cX11_lies, 2, none, ⟨0, 0, 0, 0⟩)
def M_X11_goes : MI := (yX11_goes, cX11_goes, 5, none, ⟨4, 0, 0, 100⟩)
def M_X11_keeps : MI := (yX11_keeps, cX11_keeps, 2, none, ⟨0, 0, 0, 0⟩)
def M_X11_say : MI := (yX11_say, cX11_say, 4, some FieldType.int, ⟨5, 0, 0, 124⟩)
def M_X11_sayBoth : MI := (yX11_sayBoth, cX11_sayBoth, 7, some FieldType.int, ⟨5, 0, 0, 124⟩)
def M_X11_hush : MI := (yX11_hush, cX11_hush, 1, some FieldType.int, ⟨5, 0, 0, 124⟩)
def M_X11_undo : MI := (yX11_undo, cX11_undo, 2, some FieldType.int, ⟨0, 0, 0, 0⟩)
def M_X11_went : MI := (yX11_went, cX11_went, 4, some FieldType.int, ⟨1, 0, 0, 22⟩)
def M_X11_isSo : MI := (yX11_isSo, cX11_isSo, 6, some FieldType.boolean, ⟨4, 0, 0, 100⟩)
def M_X11_fits : MI := (yX11_fits, cX11_fits, 6, some FieldType.int, ⟨5, 0, 0, 125⟩)
def M_X11_sure : MI := (yX11_sure, cX11_sure, 6, some FieldType.int, ⟨5, 0, 0, 125⟩)
def M_X11_laws : MI := (yX11_laws, cX11_laws, 3, some FieldType.int, ⟨5, 0, 0, 125⟩)
def M_X11_ask : MI := (yX11_ask, cX11_ask, 9, some FieldType.int, ⟨6, 0, 0, 150⟩)
def M_X11_leads : MI := (yX11_leads, cX11_leads, 3, none, ⟨0, 0, 0, 0⟩)
def M_X11_fewest : MI := (yX11_fewest, cX11_fewest, 8, some FieldType.int, ⟨4, 0, 0, 100⟩)
def M_X11_story : MI := (yX11_story, cX11_story, 6, some FieldType.int, ⟨1, 0, 0, 22⟩)
def M_X11_has : MI := (yX11_has, cX11_has, 11, some FieldType.int, ⟨4, 0, 0, 100⟩)
def M_X11_rests : MI := (yX11_rests, cX11_rests, 14, some FieldType.int, ⟨5, 0, 0, 130⟩)
def M_X11_tell : MI := (yX11_tell, cX11_tell, 3, some FieldType.int, ⟨2, 0, 0, 43⟩)
def M_X11_forget : MI := (yX11_forget, cX11_forget, 2, some FieldType.int, ⟨0, 0, 0, 0⟩)
def M_X11_believe : MI := (yX11_believe, cX11_believe, 14, some FieldType.long, ⟨1, 0, 0, 22⟩)
def M_X11_trail : MI := (yX11_trail, cX11_trail, 1, some FieldType.int, ⟨0, 0, 0, 0⟩)
def M_X11_dinner : MI := (yX11_dinner, cX11_dinner, 11, some FieldType.int, ⟨5, 0, 0, 124⟩)
def M_X11_keep : MI := (yX11_keep, cX11_keep, 2, some FieldType.int, ⟨0, 0, 0, 0⟩)
def M_X11_back : MI := (yX11_back, cX11_back, 2, some FieldType.int, ⟨0, 0, 0, 0⟩)
def M_X11_count : MI := (yX11_count, cX11_count, 2, some FieldType.int, ⟨0, 0, 0, 0⟩)
def M_J6_bitCount_0f7a4 : MI := (yJ6_bitCount_0f7a4, cJ6_bitCount_0f7a4, 1, some FieldType.int, ⟨0, 0, 0, 0⟩)
def M_J9_floorMod_7cf53 : MI := (yJ9_floorMod_7cf53, cJ9_floorMod_7cf53, 3, some FieldType.int, ⟨0, 0, 0, 0⟩)
def M_J9_abs_0f7a4 : MI := (yJ9_abs_0f7a4, cJ9_abs_0f7a4, 1, some FieldType.int, ⟨0, 0, 0, 0⟩)
def M_J9_max_7cf53 : MI := (yJ9_max_7cf53, cJ9_max_7cf53, 2, some FieldType.int, ⟨0, 0, 0, 0⟩)
def M_J9_min_7cf53 : MI := (yJ9_min_7cf53, cJ9_min_7cf53, 2, some FieldType.int, ⟨0, 0, 0, 0⟩)
def M_J0_length_8abf5 : MI := (yJ0_length_8abf5, cJ0_length_8abf5, 1, some FieldType.int, ⟨1, 0, 0, 20⟩)
def M_J0_charAt_5068e : MI := (yJ0_charAt_5068e, cJ0_charAt_5068e, 2, some FieldType.char, ⟨4, 0, 0, 85⟩)
def M_J0_coder_7d493 : MI := (yJ0_coder_7d493, cJ0_coder_7d493, 1, some FieldType.byte, ⟨0, 0, 0, 0⟩)
def M_J0_isLatin1_aae02 : MI := (yJ0_isLatin1_aae02, cJ0_isLatin1_aae02, 1, some FieldType.boolean, ⟨0, 0, 0, 0⟩)
def M_J0_checkIndex_df160 : MI := (yJ0_checkIndex_df160, cJ0_checkIndex_df160, 2, none, ⟨1, 0, 0, 22⟩)
def M_J1_charAt_3b067 : MI := (yJ1_charAt_3b067, cJ1_charAt_3b067, 2, some FieldType.char, ⟨2, 0, 0, 43⟩)
def M_J2_getChar_3b067 : MI := (yJ2_getChar_3b067, cJ2_getChar_3b067, 2, some FieldType.char, ⟨1, 0, 0, 20⟩)
def M_J2_length_9d52b : MI := (yJ2_length_9d52b, cJ2_length_9d52b, 1, some FieldType.int, ⟨0, 0, 0, 0⟩)
def M_J2_charAt_3b067 : MI := (yJ2_charAt_3b067, cJ2_charAt_3b067, 2, some FieldType.char, ⟨3, 0, 0, 64⟩)
def M_J2_checkIndex_2214a : MI := (yJ2_checkIndex_2214a, cJ2_checkIndex_2214a, 2, none, ⟨2, 0, 0, 43⟩)
def M_J3_checkIndex_8e157 : MI := (yJ3_checkIndex_8e157, cJ3_checkIndex_8e157, 3, some FieldType.int, ⟨0, 0, 0, 0⟩)
def M_L_law : MI := (yL_law, cL_law, 4, some .boolean, room_1)
