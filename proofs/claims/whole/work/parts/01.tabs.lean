-- ===== PART A: goes FIRST, ahead of the names: the tables' words, and 'selects' of the private methods out of them =====
/-- a private method of a class that the tables say can be made, by its rows of tables_1 -/
def lw_okq (q : MethodName × Nat) : Prop := (q.1.cls ≠ "java/lang/invoke/MethodHandle" ∧ q.1.cls ≠ "java/lang/invoke/VarHandle") ∧ Cond.instantiable q.1.cls q.2 ∈ tables_1 ∧ Cond.privateMethod q.1 ∈ tables_1 ∧ Cond.instanceMethod q.1 ∈ tables_1
theorem lw_p0 : lw_okq (⟨"DogVotes$Pad", "takes", "(I)Z"⟩, 6) := ⟨⟨by decide +kernel, by decide +kernel⟩, List.mem_of_getElem? (i := 26) (by decide +kernel), List.mem_of_getElem? (i := 377) (by decide +kernel), List.mem_of_getElem? (i := 378) (by decide +kernel)⟩
theorem lw_p1 : lw_okq (⟨"DogVotes$Pad", "takesHalves", "(I)Z"⟩, 6) := ⟨⟨by decide +kernel, by decide +kernel⟩, List.mem_of_getElem? (i := 26) (by decide +kernel), List.mem_of_getElem? (i := 381) (by decide +kernel), List.mem_of_getElem? (i := 382) (by decide +kernel)⟩
theorem lw_p2 : lw_okq (⟨"DogVotes$Pad", "takesLikes", "(I)Z"⟩, 6) := ⟨⟨by decide +kernel, by decide +kernel⟩, List.mem_of_getElem? (i := 26) (by decide +kernel), List.mem_of_getElem? (i := 385) (by decide +kernel), List.mem_of_getElem? (i := 386) (by decide +kernel)⟩
theorem lw_p3 : lw_okq (⟨"DogVotes$Pad", "takesDigit", "(I)Z"⟩, 6) := ⟨⟨by decide +kernel, by decide +kernel⟩, List.mem_of_getElem? (i := 26) (by decide +kernel), List.mem_of_getElem? (i := 395) (by decide +kernel), List.mem_of_getElem? (i := 396) (by decide +kernel)⟩
theorem lw_p4 : lw_okq (⟨"DogVotes$Pad", "takesFearMark", "()Z"⟩, 6) := ⟨⟨by decide +kernel, by decide +kernel⟩, List.mem_of_getElem? (i := 26) (by decide +kernel), List.mem_of_getElem? (i := 399) (by decide +kernel), List.mem_of_getElem? (i := 400) (by decide +kernel)⟩
theorem lw_p5 : lw_okq (⟨"DogVotes$Pad", "takesEnd", "(I)Z"⟩, 6) := ⟨⟨by decide +kernel, by decide +kernel⟩, List.mem_of_getElem? (i := 26) (by decide +kernel), List.mem_of_getElem? (i := 403) (by decide +kernel), List.mem_of_getElem? (i := 404) (by decide +kernel)⟩
theorem lw_p6 : lw_okq (⟨"DogVotes$Pad", "takesFeared", "(I)Z"⟩, 6) := ⟨⟨by decide +kernel, by decide +kernel⟩, List.mem_of_getElem? (i := 26) (by decide +kernel), List.mem_of_getElem? (i := 407) (by decide +kernel), List.mem_of_getElem? (i := 408) (by decide +kernel)⟩
theorem lw_p7 : lw_okq (⟨"DogVotes", "changed", "()V"⟩, 9) := ⟨⟨by decide +kernel, by decide +kernel⟩, List.mem_of_getElem? (i := 18) (by decide +kernel), List.mem_of_getElem? (i := 422) (by decide +kernel), List.mem_of_getElem? (i := 423) (by decide +kernel)⟩
theorem lw_p8 : lw_okq (⟨"DogVotes$Roll", "livingHeirOf", "(I)I"⟩, 6) := ⟨⟨by decide +kernel, by decide +kernel⟩, List.mem_of_getElem? (i := 32) (by decide +kernel), List.mem_of_getElem? (i := 457) (by decide +kernel), List.mem_of_getElem? (i := 458) (by decide +kernel)⟩
theorem lw_p9 : lw_okq (⟨"DogVotes$Bargain", "has", "(III)I"⟩, 2) := ⟨⟨by decide +kernel, by decide +kernel⟩, List.mem_of_getElem? (i := 184) (by decide +kernel), List.mem_of_getElem? (i := 524) (by decide +kernel), List.mem_of_getElem? (i := 525) (by decide +kernel)⟩
theorem lw_p10 : lw_okq (⟨"DogVotes$Gate", "keepIfMore", "(LDogVotes$Roll;I)V"⟩, 6) := ⟨⟨by decide +kernel, by decide +kernel⟩, List.mem_of_getElem? (i := 199) (by decide +kernel), List.mem_of_getElem? (i := 555) (by decide +kernel), List.mem_of_getElem? (i := 556) (by decide +kernel)⟩
theorem lw_p11 : lw_okq (⟨"DogVotes$Orders", "swap", "(II)V"⟩, 2) := ⟨⟨by decide +kernel, by decide +kernel⟩, List.mem_of_getElem? (i := 205) (by decide +kernel), List.mem_of_getElem? (i := 566) (by decide +kernel), List.mem_of_getElem? (i := 567) (by decide +kernel)⟩
theorem lw_p12 : lw_okq (⟨"DogVotes$Guesses", "listUntold", "()I"⟩, 9) := ⟨⟨by decide +kernel, by decide +kernel⟩, List.mem_of_getElem? (i := 246) (by decide +kernel), List.mem_of_getElem? (i := 621) (by decide +kernel), List.mem_of_getElem? (i := 622) (by decide +kernel)⟩
theorem lw_p13 : lw_okq (⟨"DogVotes$Guesses", "write", "(I)V"⟩, 9) := ⟨⟨by decide +kernel, by decide +kernel⟩, List.mem_of_getElem? (i := 246) (by decide +kernel), List.mem_of_getElem? (i := 626) (by decide +kernel), List.mem_of_getElem? (i := 627) (by decide +kernel)⟩
theorem lw_p14 : lw_okq (⟨"DogVotes$Guesses", "holds", "(LDogVotes$Rows;)Z"⟩, 9) := ⟨⟨by decide +kernel, by decide +kernel⟩, List.mem_of_getElem? (i := 246) (by decide +kernel), List.mem_of_getElem? (i := 630) (by decide +kernel), List.mem_of_getElem? (i := 631) (by decide +kernel)⟩
theorem lw_p15 : lw_okq (⟨"DogVotes$Guesses", "note", "()V"⟩, 9) := ⟨⟨by decide +kernel, by decide +kernel⟩, List.mem_of_getElem? (i := 246) (by decide +kernel), List.mem_of_getElem? (i := 635) (by decide +kernel), List.mem_of_getElem? (i := 636) (by decide +kernel)⟩
def lw_privs_1 : List (MethodName × Nat) := [(⟨"DogVotes$Pad", "takes", "(I)Z"⟩, 6), (⟨"DogVotes$Pad", "takesHalves", "(I)Z"⟩, 6), (⟨"DogVotes$Pad", "takesLikes", "(I)Z"⟩, 6), (⟨"DogVotes$Pad", "takesDigit", "(I)Z"⟩, 6), (⟨"DogVotes$Pad", "takesFearMark", "()Z"⟩, 6), (⟨"DogVotes$Pad", "takesEnd", "(I)Z"⟩, 6), (⟨"DogVotes$Pad", "takesFeared", "(I)Z"⟩, 6), (⟨"DogVotes", "changed", "()V"⟩, 9), (⟨"DogVotes$Roll", "livingHeirOf", "(I)I"⟩, 6), (⟨"DogVotes$Bargain", "has", "(III)I"⟩, 2), (⟨"DogVotes$Gate", "keepIfMore", "(LDogVotes$Roll;I)V"⟩, 6), (⟨"DogVotes$Orders", "swap", "(II)V"⟩, 2), (⟨"DogVotes$Guesses", "listUntold", "()I"⟩, 9), (⟨"DogVotes$Guesses", "write", "(I)V"⟩, 9), (⟨"DogVotes$Guesses", "holds", "(LDogVotes$Rows;)Z"⟩, 9), (⟨"DogVotes$Guesses", "note", "()V"⟩, 9)]
theorem lw_r1 : ∀ q ∈ lw_privs_1, lw_okq q := List.forall_mem_cons.mpr ⟨lw_p0, List.forall_mem_cons.mpr ⟨lw_p1, List.forall_mem_cons.mpr ⟨lw_p2, List.forall_mem_cons.mpr ⟨lw_p3, List.forall_mem_cons.mpr ⟨lw_p4, List.forall_mem_cons.mpr ⟨lw_p5, List.forall_mem_cons.mpr ⟨lw_p6, List.forall_mem_cons.mpr ⟨lw_p7, List.forall_mem_cons.mpr ⟨lw_p8, List.forall_mem_cons.mpr ⟨lw_p9, List.forall_mem_cons.mpr ⟨lw_p10, List.forall_mem_cons.mpr ⟨lw_p11, List.forall_mem_cons.mpr ⟨lw_p12, List.forall_mem_cons.mpr ⟨lw_p13, List.forall_mem_cons.mpr ⟨lw_p14, List.forall_mem_cons.mpr ⟨lw_p15, fun _ h => absurd h List.not_mem_nil⟩⟩⟩⟩⟩⟩⟩⟩⟩⟩⟩⟩⟩⟩⟩⟩
theorem lw_p16 : lw_okq (⟨"DogVotes$Evenings", "worthsOf", "(LDogVotes$Parish;)I"⟩, 7) := ⟨⟨by decide +kernel, by decide +kernel⟩, List.mem_of_getElem? (i := 290) (by decide +kernel), List.mem_of_getElem? (i := 666) (by decide +kernel), List.mem_of_getElem? (i := 667) (by decide +kernel)⟩
theorem lw_p17 : lw_okq (⟨"DogVotes$Evenings", "beHungry", "()V"⟩, 7) := ⟨⟨by decide +kernel, by decide +kernel⟩, List.mem_of_getElem? (i := 290) (by decide +kernel), List.mem_of_getElem? (i := 670) (by decide +kernel), List.mem_of_getElem? (i := 671) (by decide +kernel)⟩
theorem lw_p18 : lw_okq (⟨"DogVotes$Evenings", "feed", "(II)V"⟩, 7) := ⟨⟨by decide +kernel, by decide +kernel⟩, List.mem_of_getElem? (i := 290) (by decide +kernel), List.mem_of_getElem? (i := 676) (by decide +kernel), List.mem_of_getElem? (i := 677) (by decide +kernel)⟩
theorem lw_p19 : lw_okq (⟨"DogVotesModel", "faultOf", "()I"⟩, 23) := ⟨⟨by decide +kernel, by decide +kernel⟩, List.mem_of_getElem? (i := 709) (by decide +kernel), List.mem_of_getElem? (i := 801) (by decide +kernel), List.mem_of_getElem? (i := 802) (by decide +kernel)⟩
theorem lw_p20 : lw_okq (⟨"DogVotesModel", "isDog", "(I)Z"⟩, 23) := ⟨⟨by decide +kernel, by decide +kernel⟩, List.mem_of_getElem? (i := 709) (by decide +kernel), List.mem_of_getElem? (i := 813) (by decide +kernel), List.mem_of_getElem? (i := 814) (by decide +kernel)⟩
theorem lw_p21 : lw_okq (⟨"DogVotesModel", "fresh", "(III)V"⟩, 23) := ⟨⟨by decide +kernel, by decide +kernel⟩, List.mem_of_getElem? (i := 709) (by decide +kernel), List.mem_of_getElem? (i := 832) (by decide +kernel), List.mem_of_getElem? (i := 833) (by decide +kernel)⟩
theorem lw_p22 : lw_okq (⟨"DogVotesModel", "byLetters", "()V"⟩, 23) := ⟨⟨by decide +kernel, by decide +kernel⟩, List.mem_of_getElem? (i := 709) (by decide +kernel), List.mem_of_getElem? (i := 836) (by decide +kernel), List.mem_of_getElem? (i := 837) (by decide +kernel)⟩
theorem lw_p23 : lw_okq (⟨"DogVotesModel", "nobodyFull", "()V"⟩, 23) := ⟨⟨by decide +kernel, by decide +kernel⟩, List.mem_of_getElem? (i := 709) (by decide +kernel), List.mem_of_getElem? (i := 840) (by decide +kernel), List.mem_of_getElem? (i := 841) (by decide +kernel)⟩
theorem lw_p24 : lw_okq (⟨"DogVotesModel", "letGo", "(III)V"⟩, 23) := ⟨⟨by decide +kernel, by decide +kernel⟩, List.mem_of_getElem? (i := 709) (by decide +kernel), List.mem_of_getElem? (i := 844) (by decide +kernel), List.mem_of_getElem? (i := 845) (by decide +kernel)⟩
theorem lw_p25 : lw_okq (⟨"DogVotesModel", "isFeared", "(II)Z"⟩, 23) := ⟨⟨by decide +kernel, by decide +kernel⟩, List.mem_of_getElem? (i := 709) (by decide +kernel), List.mem_of_getElem? (i := 848) (by decide +kernel), List.mem_of_getElem? (i := 849) (by decide +kernel)⟩
theorem lw_p26 : lw_okq (⟨"DogVotesModel", "winner", "()I"⟩, 23) := ⟨⟨by decide +kernel, by decide +kernel⟩, List.mem_of_getElem? (i := 709) (by decide +kernel), List.mem_of_getElem? (i := 859) (by decide +kernel), List.mem_of_getElem? (i := 860) (by decide +kernel)⟩
theorem lw_p27 : lw_okq (⟨"DogVotesModel", "rest", "(II)Z"⟩, 23) := ⟨⟨by decide +kernel, by decide +kernel⟩, List.mem_of_getElem? (i := 709) (by decide +kernel), List.mem_of_getElem? (i := 875) (by decide +kernel), List.mem_of_getElem? (i := 876) (by decide +kernel)⟩
theorem lw_p28 : lw_okq (⟨"DogVotesModel", "keepOrder", "()V"⟩, 23) := ⟨⟨by decide +kernel, by decide +kernel⟩, List.mem_of_getElem? (i := 709) (by decide +kernel), List.mem_of_getElem? (i := 886) (by decide +kernel), List.mem_of_getElem? (i := 887) (by decide +kernel)⟩
theorem lw_p29 : lw_okq (⟨"DogVotesModel", "nextOrder", "(I)Z"⟩, 23) := ⟨⟨by decide +kernel, by decide +kernel⟩, List.mem_of_getElem? (i := 709) (by decide +kernel), List.mem_of_getElem? (i := 890) (by decide +kernel), List.mem_of_getElem? (i := 891) (by decide +kernel)⟩
theorem lw_p30 : lw_okq (⟨"DogVotesModel", "change", "(II)V"⟩, 23) := ⟨⟨by decide +kernel, by decide +kernel⟩, List.mem_of_getElem? (i := 709) (by decide +kernel), List.mem_of_getElem? (i := 894) (by decide +kernel), List.mem_of_getElem? (i := 895) (by decide +kernel)⟩
theorem lw_p31 : lw_okq (⟨"DogVotesModel", "dead", "()I"⟩, 23) := ⟨⟨by decide +kernel, by decide +kernel⟩, List.mem_of_getElem? (i := 709) (by decide +kernel), List.mem_of_getElem? (i := 902) (by decide +kernel), List.mem_of_getElem? (i := 903) (by decide +kernel)⟩
def lw_privs_2 : List (MethodName × Nat) := [(⟨"DogVotes$Evenings", "worthsOf", "(LDogVotes$Parish;)I"⟩, 7), (⟨"DogVotes$Evenings", "beHungry", "()V"⟩, 7), (⟨"DogVotes$Evenings", "feed", "(II)V"⟩, 7), (⟨"DogVotesModel", "faultOf", "()I"⟩, 23), (⟨"DogVotesModel", "isDog", "(I)Z"⟩, 23), (⟨"DogVotesModel", "fresh", "(III)V"⟩, 23), (⟨"DogVotesModel", "byLetters", "()V"⟩, 23), (⟨"DogVotesModel", "nobodyFull", "()V"⟩, 23), (⟨"DogVotesModel", "letGo", "(III)V"⟩, 23), (⟨"DogVotesModel", "isFeared", "(II)Z"⟩, 23), (⟨"DogVotesModel", "winner", "()I"⟩, 23), (⟨"DogVotesModel", "rest", "(II)Z"⟩, 23), (⟨"DogVotesModel", "keepOrder", "()V"⟩, 23), (⟨"DogVotesModel", "nextOrder", "(I)Z"⟩, 23), (⟨"DogVotesModel", "change", "(II)V"⟩, 23), (⟨"DogVotesModel", "dead", "()I"⟩, 23)]
theorem lw_r2 : ∀ q ∈ lw_privs_2, lw_okq q := List.forall_mem_cons.mpr ⟨lw_p16, List.forall_mem_cons.mpr ⟨lw_p17, List.forall_mem_cons.mpr ⟨lw_p18, List.forall_mem_cons.mpr ⟨lw_p19, List.forall_mem_cons.mpr ⟨lw_p20, List.forall_mem_cons.mpr ⟨lw_p21, List.forall_mem_cons.mpr ⟨lw_p22, List.forall_mem_cons.mpr ⟨lw_p23, List.forall_mem_cons.mpr ⟨lw_p24, List.forall_mem_cons.mpr ⟨lw_p25, List.forall_mem_cons.mpr ⟨lw_p26, List.forall_mem_cons.mpr ⟨lw_p27, List.forall_mem_cons.mpr ⟨lw_p28, List.forall_mem_cons.mpr ⟨lw_p29, List.forall_mem_cons.mpr ⟨lw_p30, List.forall_mem_cons.mpr ⟨lw_p31, fun _ h => absurd h List.not_mem_nil⟩⟩⟩⟩⟩⟩⟩⟩⟩⟩⟩⟩⟩⟩⟩⟩
theorem lw_p32 : lw_okq (⟨"DogVotesModel", "sumOf", "(I)I"⟩, 23) := ⟨⟨by decide +kernel, by decide +kernel⟩, List.mem_of_getElem? (i := 709) (by decide +kernel), List.mem_of_getElem? (i := 906) (by decide +kernel), List.mem_of_getElem? (i := 907) (by decide +kernel)⟩
theorem lw_p33 : lw_okq (⟨"DogVotesModel", "allHalves", "()I"⟩, 23) := ⟨⟨by decide +kernel, by decide +kernel⟩, List.mem_of_getElem? (i := 709) (by decide +kernel), List.mem_of_getElem? (i := 910) (by decide +kernel), List.mem_of_getElem? (i := 911) (by decide +kernel)⟩
theorem lw_p34 : lw_okq (⟨"DogVotesModel", "codes", "()I"⟩, 23) := ⟨⟨by decide +kernel, by decide +kernel⟩, List.mem_of_getElem? (i := 709) (by decide +kernel), List.mem_of_getElem? (i := 938) (by decide +kernel), List.mem_of_getElem? (i := 939) (by decide +kernel)⟩
theorem lw_p35 : lw_okq (⟨"DogVotesModel", "opens", "()I"⟩, 23) := ⟨⟨by decide +kernel, by decide +kernel⟩, List.mem_of_getElem? (i := 709) (by decide +kernel), List.mem_of_getElem? (i := 942) (by decide +kernel), List.mem_of_getElem? (i := 943) (by decide +kernel)⟩
theorem lw_p36 : lw_okq (⟨"DogVotesModel", "write", "(I)Z"⟩, 23) := ⟨⟨by decide +kernel, by decide +kernel⟩, List.mem_of_getElem? (i := 709) (by decide +kernel), List.mem_of_getElem? (i := 946) (by decide +kernel), List.mem_of_getElem? (i := 947) (by decide +kernel)⟩
theorem lw_p37 : lw_okq (⟨"DogVotesModel", "unwrite", "()V"⟩, 23) := ⟨⟨by decide +kernel, by decide +kernel⟩, List.mem_of_getElem? (i := 709) (by decide +kernel), List.mem_of_getElem? (i := 950) (by decide +kernel), List.mem_of_getElem? (i := 951) (by decide +kernel)⟩
theorem lw_p38 : lw_okq (⟨"DogVotesModel", "layEvening", "(I)Z"⟩, 23) := ⟨⟨by decide +kernel, by decide +kernel⟩, List.mem_of_getElem? (i := 709) (by decide +kernel), List.mem_of_getElem? (i := 974) (by decide +kernel), List.mem_of_getElem? (i := 975) (by decide +kernel)⟩
def lw_privs_3 : List (MethodName × Nat) := [(⟨"DogVotesModel", "sumOf", "(I)I"⟩, 23), (⟨"DogVotesModel", "allHalves", "()I"⟩, 23), (⟨"DogVotesModel", "codes", "()I"⟩, 23), (⟨"DogVotesModel", "opens", "()I"⟩, 23), (⟨"DogVotesModel", "write", "(I)Z"⟩, 23), (⟨"DogVotesModel", "unwrite", "()V"⟩, 23), (⟨"DogVotesModel", "layEvening", "(I)Z"⟩, 23)]
theorem lw_r3 : ∀ q ∈ lw_privs_3, lw_okq q := List.forall_mem_cons.mpr ⟨lw_p32, List.forall_mem_cons.mpr ⟨lw_p33, List.forall_mem_cons.mpr ⟨lw_p34, List.forall_mem_cons.mpr ⟨lw_p35, List.forall_mem_cons.mpr ⟨lw_p36, List.forall_mem_cons.mpr ⟨lw_p37, List.forall_mem_cons.mpr ⟨lw_p38, fun _ h => absurd h List.not_mem_nil⟩⟩⟩⟩⟩⟩⟩
def lw_privs : List (MethodName × Nat) := lw_privs_1 ++ (lw_privs_2 ++ (lw_privs_3))
def lw_tbl : List Cond := k2_sels lw_privs ++ tables_1
theorem lw_privs_ok : ∀ q ∈ lw_privs, lw_okq q := by
  show ∀ q ∈ lw_privs_1 ++ (lw_privs_2 ++ (lw_privs_3)), lw_okq q
  exact List.forall_mem_append.mpr ⟨lw_r1, List.forall_mem_append.mpr ⟨lw_r2, lw_r3⟩⟩
def RX0 : String := "DogVotes$Ballot"
def TX0 : u_T := fun k => match k with
  | 0 => ("DogVotes$Ballot", "left", "I", false)
  | 1 => ("DogVotes$Ballot", "right", "I", false)
  | 2 => ("DogVotes$Ballot", "leftDogs", "I", false)
  | _ => ("DogVotes$Ballot", "rightDogs", "I", false)
def tyX0 : Nat → FieldType := fun k => match k with
  | 0 => .int
  | 1 => .int
  | 2 => .int
  | _ => .int
theorem nmX0 : ∀ a, a < 4 → ∀ b, b < 4 → a ≠ b → (TX0 a).2.1 ≠ (TX0 b).2.1 := by decide +kernel
theorem tyX0_ok : ∀ k, k < 4 → parseFieldDescriptor (TX0 k).2.2.1 = some (tyX0 k) := by decide +kernel
abbrev cX0_init : ByteArray := prog_2_method_1_code
def yX0_init : MethodName := ⟨RX0, "<init>", "()V"⟩
abbrev cX0_open : ByteArray := prog_2_method_2_code
def yX0_open : MethodName := ⟨RX0, "open", "()V"⟩
abbrev cX0_hold : ByteArray := prog_2_method_3_code
def yX0_hold : MethodName := ⟨RX0, "hold", "(LDogVotes$Roll;III)V"⟩
abbrev cX0_send : ByteArray := prog_2_method_4_code
def yX0_send : MethodName := ⟨RX0, "send", "(LDogVotes$Roll;II)V"⟩
abbrev cX0_placeOf : ByteArray := prog_2_method_5_code
def yX0_placeOf : MethodName := ⟨RX0, "placeOf", "(I)I"⟩
abbrev cX0_winner : ByteArray := prog_2_method_6_code
def yX0_winner : MethodName := ⟨RX0, "winner", "()I"⟩
def RX1 : String := "DogVotes$Bargain"
def TX1 : u_T := fun k => match k with
  | 0 => ("DogVotes$Bargain", "ballot", "LDogVotes$Ballot;", true)
  | _ => ("DogVotes$Bargain", "winners", "[I", true)
def tyX1 : Nat → FieldType := fun k => match k with
  | 0 => .object "DogVotes$Ballot"
  | _ => .array .int
theorem nmX1 : ∀ a, a < 2 → ∀ b, b < 2 → a ≠ b → (TX1 a).2.1 ≠ (TX1 b).2.1 := by decide +kernel
theorem tyX1_ok : ∀ k, k < 2 → parseFieldDescriptor (TX1 k).2.2.1 = some (tyX1 k) := by decide +kernel
abbrev cX1_init : ByteArray := prog_3_method_1_code
def yX1_init : MethodName := ⟨RX1, "<init>", "()V"⟩
abbrev cX1_learn : ByteArray := prog_3_method_2_code
def yX1_learn : MethodName := ⟨RX1, "learn", "(LDogVotes$Roll;)V"⟩
abbrev cX1_bothRest : ByteArray := prog_3_method_3_code
def yX1_bothRest : MethodName := ⟨RX1, "bothRest", "(II)Z"⟩
abbrev cX1_has : ByteArray := prog_3_method_4_code
def yX1_has : MethodName := ⟨RX1, "has", "(III)I"⟩
def RX2 : String := "DogVotes$Deciders"
def TX2 : u_T := fun k => match k with
  | _ => ("", "", "", false)
def tyX2 : Nat → FieldType := fun k => match k with
  | _ => .int
theorem nmX2 : ∀ a, a < 0 → ∀ b, b < 0 → a ≠ b → (TX2 a).2.1 ≠ (TX2 b).2.1 := by decide +kernel
theorem tyX2_ok : ∀ k, k < 0 → parseFieldDescriptor (TX2 k).2.2.1 = some (tyX2 k) := by decide +kernel
abbrev cX2_decisions : ByteArray := prog_4_method_2_code
def yX2_decisions : MethodName := ⟨RX2, "decisions", "(LDogVotes$Roll;IZ)I"⟩
abbrev cX2_decides : ByteArray := prog_4_method_3_code
def yX2_decides : MethodName := ⟨RX2, "decides", "(III)Z"⟩
abbrev cX2_ordersAround : ByteArray := prog_4_method_4_code
def yX2_ordersAround : MethodName := ⟨RX2, "ordersAround", "(II)I"⟩
abbrev cX2_commonDivisor : ByteArray := prog_4_method_5_code
def yX2_commonDivisor : MethodName := ⟨RX2, "commonDivisor", "(II)I"⟩
def RX3 : String := "DogVotes$Evenings"
def TX3 : u_T := fun k => match k with
  | 0 => ("DogVotes$Evenings", "known", "Z", false)
  | 1 => ("DogVotes$Evenings", "most", "I", false)
  | 2 => ("DogVotes$Evenings", "order", "[I", true)
  | 3 => ("DogVotes$Evenings", "orders", "LDogVotes$Orders;", true)
  | 4 => ("DogVotes$Evenings", "ballot", "LDogVotes$Ballot;", true)
  | 5 => ("DogVotes$Evenings", "meals", "[I", true)
  | _ => ("DogVotes$Evenings", "full", "I", false)
def tyX3 : Nat → FieldType := fun k => match k with
  | 0 => .boolean
  | 1 => .int
  | 2 => .array .int
  | 3 => .object "DogVotes$Orders"
  | 4 => .object "DogVotes$Ballot"
  | 5 => .array .int
  | _ => .int
theorem nmX3 : ∀ a, a < 7 → ∀ b, b < 7 → a ≠ b → (TX3 a).2.1 ≠ (TX3 b).2.1 := by decide +kernel
theorem tyX3_ok : ∀ k, k < 7 → parseFieldDescriptor (TX3 k).2.2.1 = some (tyX3 k) := by decide +kernel
abbrev cX3_init : ByteArray := prog_5_method_1_code
def yX3_init : MethodName := ⟨RX3, "<init>", "()V"⟩
abbrev cX3_find : ByteArray := prog_5_method_2_code
def yX3_find : MethodName := ⟨RX3, "find", "(LDogVotes$Parish;)V"⟩
abbrev cX3_worthsOf : ByteArray := prog_5_method_3_code
def yX3_worthsOf : MethodName := ⟨RX3, "worthsOf", "(LDogVotes$Parish;)I"⟩
abbrev cX3_beHungry : ByteArray := prog_5_method_4_code
def yX3_beHungry : MethodName := ⟨RX3, "beHungry", "()V"⟩
abbrev cX3_feed : ByteArray := prog_5_method_5_code
def yX3_feed : MethodName := ⟨RX3, "feed", "(II)V"⟩
def RX4 : String := "DogVotes$Gate"
def TX4 : u_T := fun k => match k with
  | 0 => ("DogVotes$Gate", "known", "Z", false)
  | 1 => ("DogVotes$Gate", "knownLead", "I", false)
  | 2 => ("DogVotes$Gate", "most", "I", false)
  | 3 => ("DogVotes$Gate", "order", "[I", true)
  | 4 => ("DogVotes$Gate", "orders", "LDogVotes$Orders;", true)
  | _ => ("DogVotes$Gate", "ballot", "LDogVotes$Ballot;", true)
def tyX4 : Nat → FieldType := fun k => match k with
  | 0 => .boolean
  | 1 => .int
  | 2 => .int
  | 3 => .array .int
  | 4 => .object "DogVotes$Orders"
  | _ => .object "DogVotes$Ballot"
theorem nmX4 : ∀ a, a < 6 → ∀ b, b < 6 → a ≠ b → (TX4 a).2.1 ≠ (TX4 b).2.1 := by decide +kernel
theorem tyX4_ok : ∀ k, k < 6 → parseFieldDescriptor (TX4 k).2.2.1 = some (tyX4 k) := by decide +kernel
abbrev cX4_init : ByteArray := prog_6_method_1_code
def yX4_init : MethodName := ⟨RX4, "<init>", "()V"⟩
abbrev cX4_find : ByteArray := prog_6_method_2_code
def yX4_find : MethodName := ⟨RX4, "find", "(LDogVotes$Roll;I)V"⟩
abbrev cX4_keepIfMore : ByteArray := prog_6_method_3_code
def yX4_keepIfMore : MethodName := ⟨RX4, "keepIfMore", "(LDogVotes$Roll;I)V"⟩
def RX5 : String := "DogVotes$Guesses"
def TX5 : u_T := fun k => match k with
  | 0 => ("DogVotes$Guesses", "known", "Z", false)
  | 1 => ("DogVotes$Guesses", "ways", "I", false)
  | 2 => ("DogVotes$Guesses", "size", "I", false)
  | 3 => ("DogVotes$Guesses", "untold", "[I", true)
  | 4 => ("DogVotes$Guesses", "first", "[I", true)
  | 5 => ("DogVotes$Guesses", "least", "[I", true)
  | 6 => ("DogVotes$Guesses", "greatest", "[I", true)
  | 7 => ("DogVotes$Guesses", "guess", "LDogVotes$Roll;", true)
  | _ => ("DogVotes$Guesses", "ballot", "LDogVotes$Ballot;", true)
def tyX5 : Nat → FieldType := fun k => match k with
  | 0 => .boolean
  | 1 => .int
  | 2 => .int
  | 3 => .array .int
  | 4 => .array .int
  | 5 => .array .int
  | 6 => .array .int
  | 7 => .object "DogVotes$Roll"
  | _ => .object "DogVotes$Ballot"
theorem nmX5 : ∀ a, a < 9 → ∀ b, b < 9 → a ≠ b → (TX5 a).2.1 ≠ (TX5 b).2.1 := by decide +kernel
theorem tyX5_ok : ∀ k, k < 9 → parseFieldDescriptor (TX5 k).2.2.1 = some (tyX5 k) := by decide +kernel
abbrev cX5_init : ByteArray := prog_7_method_1_code
def yX5_init : MethodName := ⟨RX5, "<init>", "()V"⟩
abbrev cX5_find : ByteArray := prog_7_method_2_code
def yX5_find : MethodName := ⟨RX5, "find", "(LDogVotes$Roll;LDogVotes$Rows;)V"⟩
abbrev cX5_listUntold : ByteArray := prog_7_method_3_code
def yX5_listUntold : MethodName := ⟨RX5, "listUntold", "()I"⟩
abbrev cX5_write : ByteArray := prog_7_method_4_code
def yX5_write : MethodName := ⟨RX5, "write", "(I)V"⟩
abbrev cX5_holds : ByteArray := prog_7_method_5_code
def yX5_holds : MethodName := ⟨RX5, "holds", "(LDogVotes$Rows;)Z"⟩
abbrev cX5_note : ByteArray := prog_7_method_6_code
def yX5_note : MethodName := ⟨RX5, "note", "()V"⟩
def RX6 : String := "DogVotes$Orders"
def TX6 : u_T := fun k => match k with
  | 0 => ("DogVotes$Orders", "size", "I", false)
  | _ => ("DogVotes$Orders", "order", "[I", true)
def tyX6 : Nat → FieldType := fun k => match k with
  | 0 => .int
  | _ => .array .int
theorem nmX6 : ∀ a, a < 2 → ∀ b, b < 2 → a ≠ b → (TX6 a).2.1 ≠ (TX6 b).2.1 := by decide +kernel
theorem tyX6_ok : ∀ k, k < 2 → parseFieldDescriptor (TX6 k).2.2.1 = some (tyX6 k) := by decide +kernel
abbrev cX6_init : ByteArray := prog_8_method_1_code
def yX6_init : MethodName := ⟨RX6, "<init>", "()V"⟩
abbrev cX6_begin : ByteArray := prog_8_method_2_code
def yX6_begin : MethodName := ⟨RX6, "begin", "(I)I"⟩
abbrev cX6_advance : ByteArray := prog_8_method_3_code
def yX6_advance : MethodName := ⟨RX6, "advance", "()V"⟩
abbrev cX6_swap : ByteArray := prog_8_method_4_code
def yX6_swap : MethodName := ⟨RX6, "swap", "(II)V"⟩
def RX7 : String := "DogVotes$Pad"
def TX7 : u_T := fun k => match k with
  | 0 => ("DogVotes$Pad", "signs", "[I", true)
  | 1 => ("DogVotes$Pad", "size", "I", false)
  | 2 => ("DogVotes$Pad", "draft", "LDogVotes$Roll;", true)
  | 3 => ("DogVotes$Pad", "expected", "I", false)
  | 4 => ("DogVotes$Pad", "isLess", "Z", false)
  | _ => ("DogVotes$Pad", "lastFeared", "I", false)
def tyX7 : Nat → FieldType := fun k => match k with
  | 0 => .array .int
  | 1 => .int
  | 2 => .object "DogVotes$Roll"
  | 3 => .int
  | 4 => .boolean
  | _ => .int
theorem nmX7 : ∀ a, a < 6 → ∀ b, b < 6 → a ≠ b → (TX7 a).2.1 ≠ (TX7 b).2.1 := by decide +kernel
theorem tyX7_ok : ∀ k, k < 6 → parseFieldDescriptor (TX7 k).2.2.1 = some (tyX7 k) := by decide +kernel
abbrev cX7_init : ByteArray := prog_9_method_1_code
def yX7_init : MethodName := ⟨RX7, "<init>", "()V"⟩
abbrev cX7_add : ByteArray := prog_9_method_2_code
def yX7_add : MethodName := ⟨RX7, "add", "(I)Z"⟩
abbrev cX7_firstFault : ByteArray := prog_9_method_3_code
def yX7_firstFault : MethodName := ⟨RX7, "firstFault", "()I"⟩
abbrev cX7_takes : ByteArray := prog_9_method_4_code
def yX7_takes : MethodName := ⟨RX7, "takes", "(I)Z"⟩
abbrev cX7_takesHalves : ByteArray := prog_9_method_5_code
def yX7_takesHalves : MethodName := ⟨RX7, "takesHalves", "(I)Z"⟩
abbrev cX7_takesLikes : ByteArray := prog_9_method_6_code
def yX7_takesLikes : MethodName := ⟨RX7, "takesLikes", "(I)Z"⟩
abbrev cX7_takesDigit : ByteArray := prog_9_method_7_code
def yX7_takesDigit : MethodName := ⟨RX7, "takesDigit", "(I)Z"⟩
abbrev cX7_takesFearMark : ByteArray := prog_9_method_8_code
def yX7_takesFearMark : MethodName := ⟨RX7, "takesFearMark", "()Z"⟩
abbrev cX7_takesFeared : ByteArray := prog_9_method_9_code
def yX7_takesFeared : MethodName := ⟨RX7, "takesFeared", "(I)Z"⟩
abbrev cX7_takesEnd : ByteArray := prog_9_method_10_code
def yX7_takesEnd : MethodName := ⟨RX7, "takesEnd", "(I)Z"⟩
def RX8 : String := "DogVotes$Parish"
def TX8 : u_T := fun k => match k with
  | 0 => ("DogVotes$Parish", "roll", "LDogVotes$Roll;", true)
  | 1 => ("DogVotes$Parish", "counts", "LDogVotes$Rows;", true)
  | 2 => ("DogVotes$Parish", "questions", "LDogVotes$Rows;", true)
  | _ => ("DogVotes$Parish", "hunger", "I", false)
def tyX8 : Nat → FieldType := fun k => match k with
  | 0 => .object "DogVotes$Roll"
  | 1 => .object "DogVotes$Rows"
  | 2 => .object "DogVotes$Rows"
  | _ => .int
theorem nmX8 : ∀ a, a < 4 → ∀ b, b < 4 → a ≠ b → (TX8 a).2.1 ≠ (TX8 b).2.1 := by decide +kernel
theorem tyX8_ok : ∀ k, k < 4 → parseFieldDescriptor (TX8 k).2.2.1 = some (tyX8 k) := by decide +kernel
abbrev cX8_init : ByteArray := prog_10_method_1_code
def yX8_init : MethodName := ⟨RX8, "<init>", "()V"⟩
abbrev cX8_copyFrom : ByteArray := prog_10_method_2_code
def yX8_copyFrom : MethodName := ⟨RX8, "copyFrom", "(LDogVotes$Parish;)V"⟩
def RX9 : String := "DogVotes$Roll"
def TX9 : u_T := fun k => match k with
  | 0 => ("DogVotes$Roll", "dogs", "I", false)
  | 1 => ("DogVotes$Roll", "untold", "I", false)
  | 2 => ("DogVotes$Roll", "halves", "[I", true)
  | 3 => ("DogVotes$Roll", "likings", "[I", true)
  | 4 => ("DogVotes$Roll", "fears", "[I", true)
  | _ => ("DogVotes$Roll", "heirs", "[I", true)
def tyX9 : Nat → FieldType := fun k => match k with
  | 0 => .int
  | 1 => .int
  | 2 => .array .int
  | 3 => .array .int
  | 4 => .array .int
  | _ => .array .int
theorem nmX9 : ∀ a, a < 6 → ∀ b, b < 6 → a ≠ b → (TX9 a).2.1 ≠ (TX9 b).2.1 := by decide +kernel
theorem tyX9_ok : ∀ k, k < 6 → parseFieldDescriptor (TX9 k).2.2.1 = some (tyX9 k) := by decide +kernel
abbrev cX9_init : ByteArray := prog_11_method_1_code
def yX9_init : MethodName := ⟨RX9, "<init>", "()V"⟩
abbrev cX9_clear : ByteArray := prog_11_method_2_code
def yX9_clear : MethodName := ⟨RX9, "clear", "()V"⟩
abbrev cX9_copyFrom : ByteArray := prog_11_method_3_code
def yX9_copyFrom : MethodName := ⟨RX9, "copyFrom", "(LDogVotes$Roll;)V"⟩
abbrev cX9_has : ByteArray := prog_11_method_4_code
def yX9_has : MethodName := ⟨RX9, "has", "(I)Z"⟩
abbrev cX9_isTold : ByteArray := prog_11_method_5_code
def yX9_isTold : MethodName := ⟨RX9, "isTold", "(I)Z"⟩
abbrev cX9_isDead : ByteArray := prog_11_method_6_code
def yX9_isDead : MethodName := ⟨RX9, "isDead", "(I)Z"⟩
abbrev cX9_living : ByteArray := prog_11_method_7_code
def yX9_living : MethodName := ⟨RX9, "living", "()I"⟩
abbrev cX9_halvesOf : ByteArray := prog_11_method_8_code
def yX9_halvesOf : MethodName := ⟨RX9, "halvesOf", "(I)I"⟩
abbrev cX9_bury : ByteArray := prog_11_method_9_code
def yX9_bury : MethodName := ⟨RX9, "bury", "(I)I"⟩
abbrev cX9_livingHeirOf : ByteArray := prog_11_method_10_code
def yX9_livingHeirOf : MethodName := ⟨RX9, "livingHeirOf", "(I)I"⟩
def RX10 : String := "DogVotes$Rows"
def TX10 : u_T := fun k => match k with
  | 0 => ("DogVotes$Rows", "size", "I", false)
  | 1 => ("DogVotes$Rows", "lefts", "[I", true)
  | 2 => ("DogVotes$Rows", "rights", "[I", true)
  | _ => ("DogVotes$Rows", "numbers", "[I", true)
def tyX10 : Nat → FieldType := fun k => match k with
  | 0 => .int
  | 1 => .array .int
  | 2 => .array .int
  | _ => .array .int
theorem nmX10 : ∀ a, a < 4 → ∀ b, b < 4 → a ≠ b → (TX10 a).2.1 ≠ (TX10 b).2.1 := by decide +kernel
theorem tyX10_ok : ∀ k, k < 4 → parseFieldDescriptor (TX10 k).2.2.1 = some (tyX10 k) := by decide +kernel
abbrev cX10_init : ByteArray := prog_12_method_1_code
def yX10_init : MethodName := ⟨RX10, "<init>", "(I)V"⟩
abbrev cX10_add : ByteArray := prog_12_method_2_code
def yX10_add : MethodName := ⟨RX10, "add", "(III)Z"⟩
abbrev cX10_copyFrom : ByteArray := prog_12_method_3_code
def yX10_copyFrom : MethodName := ⟨RX10, "copyFrom", "(LDogVotes$Rows;)V"⟩
def RX11 : String := "DogVotes"
def TX11 : u_T := fun k => match k with
  | 0 => ("DogVotes", "pad", "LDogVotes$Pad;", true)
  | 1 => ("DogVotes", "parish", "LDogVotes$Parish;", true)
  | 2 => ("DogVotes", "images", "[LDogVotes$Parish;", true)
  | 3 => ("DogVotes", "keptImages", "I", false)
  | 4 => ("DogVotes", "ballot", "LDogVotes$Ballot;", true)
  | 5 => ("DogVotes", "bargain", "LDogVotes$Bargain;", true)
  | 6 => ("DogVotes", "gate", "LDogVotes$Gate;", true)
  | 7 => ("DogVotes", "guesses", "LDogVotes$Guesses;", true)
  | _ => ("DogVotes", "evenings", "LDogVotes$Evenings;", true)
def tyX11 : Nat → FieldType := fun k => match k with
  | 0 => .object "DogVotes$Pad"
  | 1 => .object "DogVotes$Parish"
  | 2 => .array (.object "DogVotes$Parish")
  | 3 => .int
  | 4 => .object "DogVotes$Ballot"
  | 5 => .object "DogVotes$Bargain"
  | 6 => .object "DogVotes$Gate"
  | 7 => .object "DogVotes$Guesses"
  | _ => .object "DogVotes$Evenings"
theorem nmX11 : ∀ a, a < 9 → ∀ b, b < 9 → a ≠ b → (TX11 a).2.1 ≠ (TX11 b).2.1 := by decide +kernel
theorem tyX11_ok : ∀ k, k < 9 → parseFieldDescriptor (TX11 k).2.2.1 = some (tyX11 k) := by decide +kernel
abbrev cX11_init : ByteArray := prog_1_method_1_code
def yX11_init : MethodName := ⟨RX11, "<init>", "()V"⟩
abbrev cX11_say : ByteArray := prog_1_method_2_code
def yX11_say : MethodName := ⟨RX11, "say", "(I)I"⟩
abbrev cX11_wipe : ByteArray := prog_1_method_3_code
def yX11_wipe : MethodName := ⟨RX11, "wipe", "()I"⟩
abbrev cX11_fault : ByteArray := prog_1_method_4_code
def yX11_fault : MethodName := ⟨RX11, "fault", "()I"⟩
abbrev cX11_roll : ByteArray := prog_1_method_5_code
def yX11_roll : MethodName := ⟨RX11, "roll", "()I"⟩
abbrev cX11_dog : ByteArray := prog_1_method_6_code
def yX11_dog : MethodName := ⟨RX11, "dog", "(II)I"⟩
abbrev cX11_heir : ByteArray := prog_1_method_7_code
def yX11_heir : MethodName := ⟨RX11, "heir", "(II)I"⟩
abbrev cX11_dies : ByteArray := prog_1_method_8_code
def yX11_dies : MethodName := ⟨RX11, "dies", "(I)I"⟩
abbrev cX11_goes : ByteArray := prog_1_method_9_code
def yX11_goes : MethodName := ⟨RX11, "goes", "(III)I"⟩
abbrev cX11_vote : ByteArray := prog_1_method_10_code
def yX11_vote : MethodName := ⟨RX11, "vote", "(III)I"⟩
abbrev cX11_stolen : ByteArray := prog_1_method_11_code
def yX11_stolen : MethodName := ⟨RX11, "stolen", "(II)I"⟩
abbrev cX11_won : ByteArray := prog_1_method_12_code
def yX11_won : MethodName := ⟨RX11, "won", "(I)I"⟩
abbrev cX11_rests : ByteArray := prog_1_method_13_code
def yX11_rests : MethodName := ⟨RX11, "rests", "(I)I"⟩
abbrev cX11_letOut : ByteArray := prog_1_method_14_code
def yX11_letOut : MethodName := ⟨RX11, "letOut", "(III)I"⟩
abbrev cX11_swings : ByteArray := prog_1_method_15_code
def yX11_swings : MethodName := ⟨RX11, "swings", "(I)I"⟩
abbrev cX11_turn : ByteArray := prog_1_method_16_code
def yX11_turn : MethodName := ⟨RX11, "turn", "(II)J"⟩
abbrev cX11_counted : ByteArray := prog_1_method_17_code
def yX11_counted : MethodName := ⟨RX11, "counted", "(III)I"⟩
abbrev cX11_forget : ByteArray := prog_1_method_18_code
def yX11_forget : MethodName := ⟨RX11, "forget", "()I"⟩
abbrev cX11_fits : ByteArray := prog_1_method_19_code
def yX11_fits : MethodName := ⟨RX11, "fits", "(I)I"⟩
abbrev cX11_liking : ByteArray := prog_1_method_20_code
def yX11_liking : MethodName := ⟨RX11, "liking", "(II)I"⟩
abbrev cX11_ask : ByteArray := prog_1_method_21_code
def yX11_ask : MethodName := ⟨RX11, "ask", "(III)I"⟩
abbrev cX11_drop : ByteArray := prog_1_method_22_code
def yX11_drop : MethodName := ⟨RX11, "drop", "()I"⟩
abbrev cX11_hunger : ByteArray := prog_1_method_23_code
def yX11_hunger : MethodName := ⟨RX11, "hunger", "(I)I"⟩
abbrev cX11_best : ByteArray := prog_1_method_24_code
def yX11_best : MethodName := ⟨RX11, "best", "(I)I"⟩
abbrev cX11_night : ByteArray := prog_1_method_25_code
def yX11_night : MethodName := ⟨RX11, "night", "(III)I"⟩
abbrev cX11_image : ByteArray := prog_1_method_26_code
def yX11_image : MethodName := ⟨RX11, "image", "(I)I"⟩
abbrev cX11_restore : ByteArray := prog_1_method_27_code
def yX11_restore : MethodName := ⟨RX11, "restore", "(I)I"⟩
abbrev cX11_told : ByteArray := prog_1_method_28_code
def yX11_told : MethodName := ⟨RX11, "told", "(I)I"⟩
abbrev cX11_changed : ByteArray := prog_1_method_29_code
def yX11_changed : MethodName := ⟨RX11, "changed", "()V"⟩
abbrev cX11_isWithin : ByteArray := prog_1_method_30_code
def yX11_isWithin : MethodName := ⟨RX11, "isWithin", "(II)Z"⟩
abbrev cX11_areLivers : ByteArray := prog_1_method_31_code
def yX11_areLivers : MethodName := ⟨RX11, "areLivers", "(II)Z"⟩
abbrev cX11_heirTold : ByteArray := prog_1_method_32_code
def yX11_heirTold : MethodName := ⟨RX11, "heirTold", "(I)I"⟩
abbrev cX11_factorial : ByteArray := prog_1_method_33_code
def yX11_factorial : MethodName := ⟨RX11, "factorial", "(I)I"⟩
def RX12 : String := "DogVotesModel"
def TX12 : u_T := fun k => match k with
  | 0 => ("DogVotesModel", "dogs", "I", false)
  | 1 => ("DogVotesModel", "halves", "[I", true)
  | 2 => ("DogVotesModel", "likes", "[I", true)
  | 3 => ("DogVotesModel", "isTold", "[Z", true)
  | 4 => ("DogVotesModel", "fears", "[I", true)
  | 5 => ("DogVotesModel", "heirs", "[I", true)
  | 6 => ("DogVotesModel", "hungry", "I", false)
  | 7 => ("DogVotesModel", "counts", "I", false)
  | 8 => ("DogVotesModel", "count", "[I", true)
  | 9 => ("DogVotesModel", "asked", "I", false)
  | 10 => ("DogVotesModel", "question", "[I", true)
  | 11 => ("DogVotesModel", "signs", "I", false)
  | 12 => ("DogVotesModel", "pad", "[I", true)
  | 13 => ("DogVotesModel", "order", "[I", true)
  | 14 => ("DogVotesModel", "went", "[I", true)
  | 15 => ("DogVotesModel", "fill", "[I", true)
  | 16 => ("DogVotesModel", "atLeft", "I", false)
  | 17 => ("DogVotesModel", "atRight", "I", false)
  | 18 => ("DogVotesModel", "winners", "[I", true)
  | 19 => ("DogVotesModel", "best", "[I", true)
  | 20 => ("DogVotesModel", "evening", "[I", true)
  | 21 => ("DogVotesModel", "image", "[I", true)
  | _ => ("DogVotesModel", "isKept", "[Z", true)
def tyX12 : Nat → FieldType := fun k => match k with
  | 0 => .int
  | 1 => .array .int
  | 2 => .array .int
  | 3 => .array .boolean
  | 4 => .array .int
  | 5 => .array .int
  | 6 => .int
  | 7 => .int
  | 8 => .array .int
  | 9 => .int
  | 10 => .array .int
  | 11 => .int
  | 12 => .array .int
  | 13 => .array .int
  | 14 => .array .int
  | 15 => .array .int
  | 16 => .int
  | 17 => .int
  | 18 => .array .int
  | 19 => .array .int
  | 20 => .array .int
  | 21 => .array .int
  | _ => .array .boolean
theorem nmX12 : ∀ a, a < 23 → ∀ b, b < 23 → a ≠ b → (TX12 a).2.1 ≠ (TX12 b).2.1 := by decide +kernel
theorem tyX12_ok : ∀ k, k < 23 → parseFieldDescriptor (TX12 k).2.2.1 = some (tyX12 k) := by decide +kernel
abbrev cX12_init : ByteArray := prog_14_method_1_code
def yX12_init : MethodName := ⟨RX12, "<init>", "()V"⟩
abbrev cX12_in : ByteArray := prog_14_method_2_code
def yX12_in : MethodName := ⟨RX12, "in", "(III)Z"⟩
abbrev cX12_has : ByteArray := prog_14_method_3_code
def yX12_has : MethodName := ⟨RX12, "has", "(II)Z"⟩
abbrev cX12_isDog : ByteArray := prog_14_method_4_code
def yX12_isDog : MethodName := ⟨RX12, "isDog", "(I)Z"⟩
abbrev cX12_say : ByteArray := prog_14_method_5_code
def yX12_say : MethodName := ⟨RX12, "say", "(I)I"⟩
abbrev cX12_wipe : ByteArray := prog_14_method_6_code
def yX12_wipe : MethodName := ⟨RX12, "wipe", "()I"⟩
abbrev cX12_faultOf : ByteArray := prog_14_method_7_code
def yX12_faultOf : MethodName := ⟨RX12, "faultOf", "()I"⟩
abbrev cX12_fault : ByteArray := prog_14_method_8_code
def yX12_fault : MethodName := ⟨RX12, "fault", "()I"⟩
abbrev cX12_roll : ByteArray := prog_14_method_9_code
def yX12_roll : MethodName := ⟨RX12, "roll", "()I"⟩
abbrev cX12_dog : ByteArray := prog_14_method_10_code
def yX12_dog : MethodName := ⟨RX12, "dog", "(II)I"⟩
abbrev cX12_heir : ByteArray := prog_14_method_11_code
def yX12_heir : MethodName := ⟨RX12, "heir", "(II)I"⟩
abbrev cX12_dies : ByteArray := prog_14_method_12_code
def yX12_dies : MethodName := ⟨RX12, "dies", "(I)I"⟩
abbrev cX12_byLetters : ByteArray := prog_14_method_13_code
def yX12_byLetters : MethodName := ⟨RX12, "byLetters", "()V"⟩
abbrev cX12_nobodyFull : ByteArray := prog_14_method_14_code
def yX12_nobodyFull : MethodName := ⟨RX12, "nobodyFull", "()V"⟩
abbrev cX12_isFeared : ByteArray := prog_14_method_15_code
def yX12_isFeared : MethodName := ⟨RX12, "isFeared", "(II)Z"⟩
abbrev cX12_letGo : ByteArray := prog_14_method_16_code
def yX12_letGo : MethodName := ⟨RX12, "letGo", "(III)V"⟩
abbrev cX12_winner : ByteArray := prog_14_method_17_code
def yX12_winner : MethodName := ⟨RX12, "winner", "()I"⟩
abbrev cX12_fresh : ByteArray := prog_14_method_18_code
def yX12_fresh : MethodName := ⟨RX12, "fresh", "(III)V"⟩
abbrev cX12_areLivers : ByteArray := prog_14_method_19_code
def yX12_areLivers : MethodName := ⟨RX12, "areLivers", "(II)Z"⟩
abbrev cX12_goes : ByteArray := prog_14_method_20_code
def yX12_goes : MethodName := ⟨RX12, "goes", "(III)I"⟩
abbrev cX12_vote : ByteArray := prog_14_method_21_code
def yX12_vote : MethodName := ⟨RX12, "vote", "(III)I"⟩
abbrev cX12_stolen : ByteArray := prog_14_method_22_code
def yX12_stolen : MethodName := ⟨RX12, "stolen", "(II)I"⟩
abbrev cX12_won : ByteArray := prog_14_method_23_code
def yX12_won : MethodName := ⟨RX12, "won", "(I)I"⟩
abbrev cX12_worthTo : ByteArray := prog_14_method_24_code
def yX12_worthTo : MethodName := ⟨RX12, "worthTo", "(III)I"⟩
abbrev cX12_rest : ByteArray := prog_14_method_25_code
def yX12_rest : MethodName := ⟨RX12, "rest", "(II)Z"⟩
abbrev cX12_rests : ByteArray := prog_14_method_26_code
def yX12_rests : MethodName := ⟨RX12, "rests", "(I)I"⟩
abbrev cX12_nextOrder : ByteArray := prog_14_method_27_code
def yX12_nextOrder : MethodName := ⟨RX12, "nextOrder", "(I)Z"⟩
abbrev cX12_change : ByteArray := prog_14_method_28_code
def yX12_change : MethodName := ⟨RX12, "change", "(II)V"⟩
abbrev cX12_keepOrder : ByteArray := prog_14_method_29_code
def yX12_keepOrder : MethodName := ⟨RX12, "keepOrder", "()V"⟩
abbrev cX12_letOut : ByteArray := prog_14_method_30_code
def yX12_letOut : MethodName := ⟨RX12, "letOut", "(III)I"⟩
abbrev cX12_allHalves : ByteArray := prog_14_method_31_code
def yX12_allHalves : MethodName := ⟨RX12, "allHalves", "()I"⟩
abbrev cX12_sumOf : ByteArray := prog_14_method_32_code
def yX12_sumOf : MethodName := ⟨RX12, "sumOf", "(I)I"⟩
abbrev cX12_dead : ByteArray := prog_14_method_33_code
def yX12_dead : MethodName := ⟨RX12, "dead", "()I"⟩
abbrev cX12_swings : ByteArray := prog_14_method_34_code
def yX12_swings : MethodName := ⟨RX12, "swings", "(I)I"⟩
abbrev cX12_factorial : ByteArray := prog_14_method_35_code
def yX12_factorial : MethodName := ⟨RX12, "factorial", "(I)I"⟩
abbrev cX12_bits : ByteArray := prog_14_method_36_code
def yX12_bits : MethodName := ⟨RX12, "bits", "(I)I"⟩
abbrev cX12_turn : ByteArray := prog_14_method_37_code
def yX12_turn : MethodName := ⟨RX12, "turn", "(II)J"⟩
abbrev cX12_counted : ByteArray := prog_14_method_38_code
def yX12_counted : MethodName := ⟨RX12, "counted", "(III)I"⟩
abbrev cX12_forget : ByteArray := prog_14_method_39_code
def yX12_forget : MethodName := ⟨RX12, "forget", "()I"⟩
abbrev cX12_opens : ByteArray := prog_14_method_40_code
def yX12_opens : MethodName := ⟨RX12, "opens", "()I"⟩
abbrev cX12_codes : ByteArray := prog_14_method_41_code
def yX12_codes : MethodName := ⟨RX12, "codes", "()I"⟩
abbrev cX12_write : ByteArray := prog_14_method_42_code
def yX12_write : MethodName := ⟨RX12, "write", "(I)Z"⟩
abbrev cX12_unwrite : ByteArray := prog_14_method_43_code
def yX12_unwrite : MethodName := ⟨RX12, "unwrite", "()V"⟩
abbrev cX12_fits : ByteArray := prog_14_method_44_code
def yX12_fits : MethodName := ⟨RX12, "fits", "(I)I"⟩
abbrev cX12_liking : ByteArray := prog_14_method_45_code
def yX12_liking : MethodName := ⟨RX12, "liking", "(II)I"⟩
abbrev cX12_ask : ByteArray := prog_14_method_46_code
def yX12_ask : MethodName := ⟨RX12, "ask", "(III)I"⟩
abbrev cX12_drop : ByteArray := prog_14_method_47_code
def yX12_drop : MethodName := ⟨RX12, "drop", "()I"⟩
abbrev cX12_hunger : ByteArray := prog_14_method_48_code
def yX12_hunger : MethodName := ⟨RX12, "hunger", "(I)I"⟩
abbrev cX12_layEvening : ByteArray := prog_14_method_49_code
def yX12_layEvening : MethodName := ⟨RX12, "layEvening", "(I)Z"⟩
abbrev cX12_best : ByteArray := prog_14_method_50_code
def yX12_best : MethodName := ⟨RX12, "best", "(I)I"⟩
abbrev cX12_night : ByteArray := prog_14_method_51_code
def yX12_night : MethodName := ⟨RX12, "night", "(III)I"⟩
abbrev cX12_image : ByteArray := prog_14_method_52_code
def yX12_image : MethodName := ⟨RX12, "image", "(I)I"⟩
abbrev cX12_restore : ByteArray := prog_14_method_53_code
def yX12_restore : MethodName := ⟨RX12, "restore", "(I)I"⟩
abbrev cX12_told : ByteArray := prog_14_method_54_code
def yX12_told : MethodName := ⟨RX12, "told", "(I)I"⟩
def RJ6 : String := "java/lang/Integer"
def TJ6 : u_T := fun k => match k with
  | _ => ("", "", "", false)
def tyJ6 : Nat → FieldType := fun k => match k with
  | _ => .int
theorem nmJ6 : ∀ a, a < 0 → ∀ b, b < 0 → a ≠ b → (TJ6 a).2.1 ≠ (TJ6 b).2.1 := by decide +kernel
theorem tyJ6_ok : ∀ k, k < 0 → parseFieldDescriptor (TJ6 k).2.2.1 = some (tyJ6 k) := by decide +kernel
abbrev cJ6_bitCount_0f7a4 : ByteArray := prog_15_method_49_code
def yJ6_bitCount_0f7a4 : MethodName := ⟨RJ6, "bitCount", "(I)I"⟩
def RJ9 : String := "java/lang/Math"
def TJ9 : u_T := fun k => match k with
  | _ => ("", "", "", false)
def tyJ9 : Nat → FieldType := fun k => match k with
  | _ => .int
theorem nmJ9 : ∀ a, a < 0 → ∀ b, b < 0 → a ≠ b → (TJ9 a).2.1 ≠ (TJ9 b).2.1 := by decide +kernel
theorem tyJ9_ok : ∀ k, k < 0 → parseFieldDescriptor (TJ9 k).2.2.1 = some (tyJ9 k) := by decide +kernel
abbrev cJ9_max_7cf53 : ByteArray := prog_16_method_65_code
def yJ9_max_7cf53 : MethodName := ⟨RJ9, "max", "(II)I"⟩
abbrev cJ9_min_7cf53 : ByteArray := prog_16_method_69_code
def yJ9_min_7cf53 : MethodName := ⟨RJ9, "min", "(II)I"⟩
def RJ10 : String := "java/lang/System"
def TJ10 : u_T := fun k => match k with
  | _ => ("", "", "", false)
def tyJ10 : Nat → FieldType := fun k => match k with
  | _ => .int
theorem nmJ10 : ∀ a, a < 0 → ∀ b, b < 0 → a ≠ b → (TJ10 a).2.1 ≠ (TJ10 b).2.1 := by decide +kernel
theorem tyJ10_ok : ∀ k, k < 0 → parseFieldDescriptor (TJ10 k).2.2.1 = some (tyJ10 k) := by decide +kernel
def RL : String := "DogVotesLaw"
abbrev cL_law : ByteArray := code
def yL_law : MethodName := ⟨RL, "law", "([I)Z"⟩
abbrev vwCl : List vw_C := [(RX0, TX0, 4), (RX1, TX1, 2), (RX3, TX3, 7), (RX4, TX4, 6), (RX5, TX5, 9), (RX6, TX6, 2), (RX7, TX7, 6), (RX8, TX8, 4), (RX9, TX9, 6), (RX10, TX10, 4), (RX11, TX11, 9), (RX12, TX12, 23)]
def tt : List Cond := lw_tbl.filter goodWord
theorem tt_mem {w : Cond} (h : w ∈ lw_tbl) (g : goodWord w = true) : w ∈ tt := List.mem_filter.mpr ⟨h, g⟩
theorem tt_p (j : Nat) {w : Cond} (h : (k2_sels lw_privs)[j]? = some w) (g : goodWord w = true) : w ∈ tt := tt_mem (List.mem_append_left _ (List.mem_of_getElem? h)) g
theorem tt_1 (j : Nat) {w : Cond} (h : tables_1_1[j]? = some w) (g : goodWord w = true) : w ∈ tt := tt_mem (List.mem_append_right _ (List.mem_append_left _ (List.mem_of_getElem? h))) g
theorem tt_2 (j : Nat) {w : Cond} (h : tables_1_2[j]? = some w) (g : goodWord w = true) : w ∈ tt := tt_mem (List.mem_append_right _ (List.mem_append_right _ (List.mem_append_left _ (List.mem_of_getElem? h)))) g
theorem tt_3 (j : Nat) {w : Cond} (h : tables_1_3[j]? = some w) (g : goodWord w = true) : w ∈ tt := tt_mem (List.mem_append_right _ (List.mem_append_right _ (List.mem_append_right _ (List.mem_append_left _ (List.mem_of_getElem? h))))) g
theorem tt_4 (j : Nat) {w : Cond} (h : tables_1_4[j]? = some w) (g : goodWord w = true) : w ∈ tt := tt_mem (List.mem_append_right _ (List.mem_append_right _ (List.mem_append_right _ (List.mem_append_right _ (List.mem_append_left _ (List.mem_of_getElem? h)))))) g
theorem tt_5 (j : Nat) {w : Cond} (h : tables_1_5[j]? = some w) (g : goodWord w = true) : w ∈ tt := tt_mem (List.mem_append_right _ (List.mem_append_right _ (List.mem_append_right _ (List.mem_append_right _ (List.mem_append_right _ (List.mem_of_getElem? h)))))) g
theorem tt_all (ws : List Cond) (h : ∀ w ∈ ws, w ∈ tables_1) (g : ∀ w ∈ ws, goodWord w = true) : ∀ w ∈ ws, w ∈ tt := fun w hw => tt_mem (List.mem_append_right _ (h w hw)) (g w hw)
theorem mN_L : (Jvm.Cond.initialized "DogVotesLaw") ∈ tt := tt_1 0 rfl rfl
theorem mN_X11 : (Jvm.Cond.initialized "DogVotes") ∈ tt := tt_1 1 rfl rfl
theorem mN_X7 : (Jvm.Cond.initialized "DogVotes$Pad") ∈ tt := tt_1 2 rfl rfl
theorem mN_X9 : (Jvm.Cond.initialized "DogVotes$Roll") ∈ tt := tt_1 3 rfl rfl
theorem mN_X8 : (Jvm.Cond.initialized "DogVotes$Parish") ∈ tt := tt_1 4 rfl rfl
theorem mN_X10 : (Jvm.Cond.initialized "DogVotes$Rows") ∈ tt := tt_1 5 rfl rfl
theorem mN_J9 : (Jvm.Cond.initialized "java/lang/Math") ∈ tt := tt_1 6 rfl rfl
theorem mN_X0 : (Jvm.Cond.initialized "DogVotes$Ballot") ∈ tt := tt_1 7 rfl rfl
theorem mN_X1 : (Jvm.Cond.initialized "DogVotes$Bargain") ∈ tt := tt_1 8 rfl rfl
theorem mN_X4 : (Jvm.Cond.initialized "DogVotes$Gate") ∈ tt := tt_1 9 rfl rfl
theorem mN_X6 : (Jvm.Cond.initialized "DogVotes$Orders") ∈ tt := tt_1 10 rfl rfl
theorem mN_X5 : (Jvm.Cond.initialized "DogVotes$Guesses") ∈ tt := tt_1 11 rfl rfl
theorem mN_X3 : (Jvm.Cond.initialized "DogVotes$Evenings") ∈ tt := tt_1 12 rfl rfl
theorem mN_X12 : (Jvm.Cond.initialized "DogVotesModel") ∈ tt := tt_1 13 rfl rfl
theorem mN_J6 : (Jvm.Cond.initialized "java/lang/Integer") ∈ tt := tt_1 14 rfl rfl
theorem mN_J10 : (Jvm.Cond.initialized "java/lang/System") ∈ tt := tt_1 15 rfl rfl
theorem mN_X2 : (Jvm.Cond.initialized "DogVotes$Deciders") ∈ tt := tt_1 16 rfl rfl
theorem mK_L_7 : (Jvm.Cond.classLink "DogVotesLaw" (7 : Nat) "DogVotes") ∈ tt := tt_1 17 rfl rfl
theorem mB_X11 : (Jvm.Cond.instantiable "DogVotes" (9 : Nat)) ∈ tt := tt_1 18 rfl rfl
theorem mM_L_9 : (Jvm.Cond.methodLink "DogVotesLaw" (9 : Nat) ({ cls := "DogVotes", name := "<init>", desc := "()V" } : Jvm.MethodName)) ∈ tt := tt_1 19 rfl rfl
theorem mI_X11_init : (Jvm.Cond.instanceMethod ({ cls := "DogVotes", name := "<init>", desc := "()V" } : Jvm.MethodName)) ∈ tt := tt_1 20 rfl rfl
theorem mC_X11_init : (Jvm.Cond.code ({ cls := "DogVotes", name := "<init>", desc := "()V" } : Jvm.MethodName) prog_1_method_1_code (2 : Nat) (Option.none : Option Jvm.ClassFile.FieldType)) ∈ tt := tt_1 21 rfl rfl
theorem mM_X11_3 : (Jvm.Cond.methodLink "DogVotes" (3 : Nat) ({ cls := "java/lang/Object", name := "<init>", desc := "()V" } : Jvm.MethodName)) ∈ tt := tt_1 22 rfl rfl
theorem mI_objinit : (Jvm.Cond.instanceMethod ({ cls := "java/lang/Object", name := "<init>", desc := "()V" } : Jvm.MethodName)) ∈ tt := tt_1 23 rfl rfl
theorem mC_objinit : (Jvm.Cond.code ({ cls := "java/lang/Object", name := "<init>", desc := "()V" } : Jvm.MethodName) object_method_1_code (1 : Nat) (Option.none : Option Jvm.ClassFile.FieldType)) ∈ tt := tt_1 24 rfl rfl
theorem mK_X11_9 : (Jvm.Cond.classLink "DogVotes" (9 : Nat) "DogVotes$Pad") ∈ tt := tt_1 25 rfl rfl
theorem mB_X7 : (Jvm.Cond.instantiable "DogVotes$Pad" (6 : Nat)) ∈ tt := tt_1 26 rfl rfl
theorem mI_X7_init : (Jvm.Cond.instanceMethod ({ cls := "DogVotes$Pad", name := "<init>", desc := "()V" } : Jvm.MethodName)) ∈ tt := tt_1 28 rfl rfl
theorem mC_X7_init : (Jvm.Cond.code ({ cls := "DogVotes$Pad", name := "<init>", desc := "()V" } : Jvm.MethodName) prog_9_method_1_code (1 : Nat) (Option.none : Option Jvm.ClassFile.FieldType)) ∈ tt := tt_1 29 rfl rfl
theorem mM_X7_3 : (Jvm.Cond.methodLink "DogVotes$Pad" (3 : Nat) ({ cls := "java/lang/Object", name := "<init>", desc := "()V" } : Jvm.MethodName)) ∈ tt := tt_1 30 rfl rfl
theorem mK_X7_15 : (Jvm.Cond.classLink "DogVotes$Pad" (15 : Nat) "DogVotes$Roll") ∈ tt := tt_1 31 rfl rfl
theorem mB_X9 : (Jvm.Cond.instantiable "DogVotes$Roll" (6 : Nat)) ∈ tt := tt_1 32 rfl rfl
theorem mI_X9_init : (Jvm.Cond.instanceMethod ({ cls := "DogVotes$Roll", name := "<init>", desc := "()V" } : Jvm.MethodName)) ∈ tt := tt_1 34 rfl rfl
theorem mC_X9_init : (Jvm.Cond.code ({ cls := "DogVotes$Roll", name := "<init>", desc := "()V" } : Jvm.MethodName) prog_11_method_1_code (1 : Nat) (Option.none : Option Jvm.ClassFile.FieldType)) ∈ tt := tt_1 35 rfl rfl
theorem mM_X9_3 : (Jvm.Cond.methodLink "DogVotes$Roll" (3 : Nat) ({ cls := "java/lang/Object", name := "<init>", desc := "()V" } : Jvm.MethodName)) ∈ tt := tt_1 36 rfl rfl
theorem mF_X9_24 : (Jvm.Cond.fieldLink "DogVotes$Roll" (24 : Nat) "DogVotes$Roll" "dogs" "I") ∈ tt := tt_1 37 rfl rfl
theorem mF_X2_17 : (Jvm.Cond.fieldLink "DogVotes$Deciders" (17 : Nat) "DogVotes$Roll" "dogs" "I") ∈ tt := tt_1 38 rfl rfl
theorem mF_X4_50 : (Jvm.Cond.fieldLink "DogVotes$Gate" (50 : Nat) "DogVotes$Roll" "dogs" "I") ∈ tt := tt_1 39 rfl rfl
theorem mF_X0_27 : (Jvm.Cond.fieldLink "DogVotes$Ballot" (27 : Nat) "DogVotes$Roll" "dogs" "I") ∈ tt := tt_1 40 rfl rfl
theorem mF_X5_68 : (Jvm.Cond.fieldLink "DogVotes$Guesses" (68 : Nat) "DogVotes$Roll" "dogs" "I") ∈ tt := tt_1 41 rfl rfl
theorem mF_X7_55 : (Jvm.Cond.fieldLink "DogVotes$Pad" (55 : Nat) "DogVotes$Roll" "dogs" "I") ∈ tt := tt_1 42 rfl rfl
theorem mF_X11_97 : (Jvm.Cond.fieldLink "DogVotes" (97 : Nat) "DogVotes$Roll" "dogs" "I") ∈ tt := tt_1 43 rfl rfl
theorem mF_X9_28 : (Jvm.Cond.fieldLink "DogVotes$Roll" (28 : Nat) "DogVotes$Roll" "untold" "I") ∈ tt := tt_1 44 rfl rfl
theorem mF_X7_61 : (Jvm.Cond.fieldLink "DogVotes$Pad" (61 : Nat) "DogVotes$Roll" "untold" "I") ∈ tt := tt_1 45 rfl rfl
theorem mF_X11_234 : (Jvm.Cond.fieldLink "DogVotes" (234 : Nat) "DogVotes$Roll" "untold" "I") ∈ tt := tt_1 46 rfl rfl
theorem mF_X9_9 : (Jvm.Cond.fieldLink "DogVotes$Roll" (9 : Nat) "DogVotes$Roll" "halves" "[I") ∈ tt := tt_1 47 rfl rfl
theorem mF_X2_21 : (Jvm.Cond.fieldLink "DogVotes$Deciders" (21 : Nat) "DogVotes$Roll" "halves" "[I") ∈ tt := tt_1 48 rfl rfl
theorem mF_X0_50 : (Jvm.Cond.fieldLink "DogVotes$Ballot" (50 : Nat) "DogVotes$Roll" "halves" "[I") ∈ tt := tt_1 49 rfl rfl
theorem mF_X7_58 : (Jvm.Cond.fieldLink "DogVotes$Pad" (58 : Nat) "DogVotes$Roll" "halves" "[I") ∈ tt := tt_1 50 rfl rfl
theorem mF_X11_103 : (Jvm.Cond.fieldLink "DogVotes" (103 : Nat) "DogVotes$Roll" "halves" "[I") ∈ tt := tt_1 51 rfl rfl
theorem mF_X9_15 : (Jvm.Cond.fieldLink "DogVotes$Roll" (15 : Nat) "DogVotes$Roll" "likings" "[I") ∈ tt := tt_1 52 rfl rfl
theorem mF_X5_75 : (Jvm.Cond.fieldLink "DogVotes$Guesses" (75 : Nat) "DogVotes$Roll" "likings" "[I") ∈ tt := tt_1 53 rfl rfl
theorem mF_X0_43 : (Jvm.Cond.fieldLink "DogVotes$Ballot" (43 : Nat) "DogVotes$Roll" "likings" "[I") ∈ tt := tt_1 54 rfl rfl
theorem mF_X11_110 : (Jvm.Cond.fieldLink "DogVotes" (110 : Nat) "DogVotes$Roll" "likings" "[I") ∈ tt := tt_1 55 rfl rfl
theorem mF_X7_74 : (Jvm.Cond.fieldLink "DogVotes$Pad" (74 : Nat) "DogVotes$Roll" "likings" "[I") ∈ tt := tt_1 56 rfl rfl
theorem mF_X9_18 : (Jvm.Cond.fieldLink "DogVotes$Roll" (18 : Nat) "DogVotes$Roll" "fears" "[I") ∈ tt := tt_1 57 rfl rfl
theorem mF_X0_47 : (Jvm.Cond.fieldLink "DogVotes$Ballot" (47 : Nat) "DogVotes$Roll" "fears" "[I") ∈ tt := tt_1 58 rfl rfl
theorem mF_X11_113 : (Jvm.Cond.fieldLink "DogVotes" (113 : Nat) "DogVotes$Roll" "fears" "[I") ∈ tt := tt_1 59 rfl rfl
theorem mF_X7_80 : (Jvm.Cond.fieldLink "DogVotes$Pad" (80 : Nat) "DogVotes$Roll" "fears" "[I") ∈ tt := tt_1 60 rfl rfl
theorem mF_X9_21 : (Jvm.Cond.fieldLink "DogVotes$Roll" (21 : Nat) "DogVotes$Roll" "heirs" "[I") ∈ tt := tt_1 61 rfl rfl
theorem mF_X11_116 : (Jvm.Cond.fieldLink "DogVotes" (116 : Nat) "DogVotes$Roll" "heirs" "[I") ∈ tt := tt_1 62 rfl rfl
theorem mA_int : (Jvm.Cond.arrayClass Jvm.ClassFile.FieldType.int) ∈ tt := tt_1 76 rfl rfl
theorem mF_X7_9 : (Jvm.Cond.fieldLink "DogVotes$Pad" (9 : Nat) "DogVotes$Pad" "signs" "[I") ∈ tt := tt_1 77 rfl rfl
theorem mF_X7_22 : (Jvm.Cond.fieldLink "DogVotes$Pad" (22 : Nat) "DogVotes$Pad" "size" "I") ∈ tt := tt_1 78 rfl rfl
theorem mF_X11_66 : (Jvm.Cond.fieldLink "DogVotes" (66 : Nat) "DogVotes$Pad" "size" "I") ∈ tt := tt_1 79 rfl rfl
theorem mF_X7_18 : (Jvm.Cond.fieldLink "DogVotes$Pad" (18 : Nat) "DogVotes$Pad" "draft" "LDogVotes$Roll;") ∈ tt := tt_1 80 rfl rfl
theorem mF_X11_78 : (Jvm.Cond.fieldLink "DogVotes" (78 : Nat) "DogVotes$Pad" "draft" "LDogVotes$Roll;") ∈ tt := tt_1 81 rfl rfl
theorem mF_X7_29 : (Jvm.Cond.fieldLink "DogVotes$Pad" (29 : Nat) "DogVotes$Pad" "expected" "I") ∈ tt := tt_1 82 rfl rfl
theorem mF_X7_70 : (Jvm.Cond.fieldLink "DogVotes$Pad" (70 : Nat) "DogVotes$Pad" "isLess" "Z") ∈ tt := tt_1 83 rfl rfl
theorem mF_X7_77 : (Jvm.Cond.fieldLink "DogVotes$Pad" (77 : Nat) "DogVotes$Pad" "lastFeared" "I") ∈ tt := tt_1 84 rfl rfl
theorem mK_X11_16 : (Jvm.Cond.classLink "DogVotes" (16 : Nat) "DogVotes$Parish") ∈ tt := tt_1 98 rfl rfl
theorem mB_X8 : (Jvm.Cond.instantiable "DogVotes$Parish" (4 : Nat)) ∈ tt := tt_1 99 rfl rfl
theorem mI_X8_init : (Jvm.Cond.instanceMethod ({ cls := "DogVotes$Parish", name := "<init>", desc := "()V" } : Jvm.MethodName)) ∈ tt := tt_1 101 rfl rfl
theorem mC_X8_init : (Jvm.Cond.code ({ cls := "DogVotes$Parish", name := "<init>", desc := "()V" } : Jvm.MethodName) prog_10_method_1_code (1 : Nat) (Option.none : Option Jvm.ClassFile.FieldType)) ∈ tt := tt_1 102 rfl rfl
theorem mM_X8_3 : (Jvm.Cond.methodLink "DogVotes$Parish" (3 : Nat) ({ cls := "java/lang/Object", name := "<init>", desc := "()V" } : Jvm.MethodName)) ∈ tt := tt_1 103 rfl rfl
theorem mK_X8_9 : (Jvm.Cond.classLink "DogVotes$Parish" (9 : Nat) "DogVotes$Roll") ∈ tt := tt_1 104 rfl rfl
theorem mK_X8_18 : (Jvm.Cond.classLink "DogVotes$Parish" (18 : Nat) "DogVotes$Rows") ∈ tt := tt_1 106 rfl rfl
theorem mB_X10 : (Jvm.Cond.instantiable "DogVotes$Rows" (4 : Nat)) ∈ tt := tt_1 107 rfl rfl
theorem mM_X8_20 : (Jvm.Cond.methodLink "DogVotes$Parish" (20 : Nat) ({ cls := "DogVotes$Rows", name := "<init>", desc := "(I)V" } : Jvm.MethodName)) ∈ tt := tt_1 108 rfl rfl
theorem mI_X10_init : (Jvm.Cond.instanceMethod ({ cls := "DogVotes$Rows", name := "<init>", desc := "(I)V" } : Jvm.MethodName)) ∈ tt := tt_1 109 rfl rfl
theorem mC_X10_init : (Jvm.Cond.code ({ cls := "DogVotes$Rows", name := "<init>", desc := "(I)V" } : Jvm.MethodName) prog_12_method_1_code (3 : Nat) (Option.none : Option Jvm.ClassFile.FieldType)) ∈ tt := tt_1 110 rfl rfl
theorem mM_X10_1 : (Jvm.Cond.methodLink "DogVotes$Rows" (1 : Nat) ({ cls := "java/lang/Object", name := "<init>", desc := "()V" } : Jvm.MethodName)) ∈ tt := tt_1 111 rfl rfl
theorem mM_X10_7 : (Jvm.Cond.methodLink "DogVotes$Rows" (7 : Nat) ({ cls := "java/lang/Math", name := "max", desc := "(II)I" } : Jvm.MethodName)) ∈ tt := tt_1 112 rfl rfl
theorem mT_J9_max_7cf53 : (Jvm.Cond.static ({ cls := "java/lang/Math", name := "max", desc := "(II)I" } : Jvm.MethodName)) ∈ tt := tt_1 113 rfl rfl
theorem mC_J9_max_7cf53 : (Jvm.Cond.code ({ cls := "java/lang/Math", name := "max", desc := "(II)I" } : Jvm.MethodName) prog_16_method_65_code (2 : Nat) (Option.some Jvm.ClassFile.FieldType.int)) ∈ tt := tt_1 114 rfl rfl
theorem mF_X10_25 : (Jvm.Cond.fieldLink "DogVotes$Rows" (25 : Nat) "DogVotes$Rows" "size" "I") ∈ tt := tt_1 115 rfl rfl
theorem mF_X3_46 : (Jvm.Cond.fieldLink "DogVotes$Evenings" (46 : Nat) "DogVotes$Rows" "size" "I") ∈ tt := tt_1 116 rfl rfl
theorem mF_X5_78 : (Jvm.Cond.fieldLink "DogVotes$Guesses" (78 : Nat) "DogVotes$Rows" "size" "I") ∈ tt := tt_1 117 rfl rfl
theorem mF_X11_91 : (Jvm.Cond.fieldLink "DogVotes" (91 : Nat) "DogVotes$Rows" "size" "I") ∈ tt := tt_1 118 rfl rfl
theorem mF_X10_13 : (Jvm.Cond.fieldLink "DogVotes$Rows" (13 : Nat) "DogVotes$Rows" "lefts" "[I") ∈ tt := tt_1 119 rfl rfl
theorem mF_X3_73 : (Jvm.Cond.fieldLink "DogVotes$Evenings" (73 : Nat) "DogVotes$Rows" "lefts" "[I") ∈ tt := tt_1 120 rfl rfl
theorem mF_X5_81 : (Jvm.Cond.fieldLink "DogVotes$Guesses" (81 : Nat) "DogVotes$Rows" "lefts" "[I") ∈ tt := tt_1 121 rfl rfl
theorem mF_X10_19 : (Jvm.Cond.fieldLink "DogVotes$Rows" (19 : Nat) "DogVotes$Rows" "rights" "[I") ∈ tt := tt_1 122 rfl rfl
theorem mF_X3_76 : (Jvm.Cond.fieldLink "DogVotes$Evenings" (76 : Nat) "DogVotes$Rows" "rights" "[I") ∈ tt := tt_1 123 rfl rfl
theorem mF_X5_84 : (Jvm.Cond.fieldLink "DogVotes$Guesses" (84 : Nat) "DogVotes$Rows" "rights" "[I") ∈ tt := tt_1 124 rfl rfl
theorem mF_X10_22 : (Jvm.Cond.fieldLink "DogVotes$Rows" (22 : Nat) "DogVotes$Rows" "numbers" "[I") ∈ tt := tt_1 125 rfl rfl
theorem mF_X3_94 : (Jvm.Cond.fieldLink "DogVotes$Evenings" (94 : Nat) "DogVotes$Rows" "numbers" "[I") ∈ tt := tt_1 126 rfl rfl
theorem mF_X5_94 : (Jvm.Cond.fieldLink "DogVotes$Guesses" (94 : Nat) "DogVotes$Rows" "numbers" "[I") ∈ tt := tt_1 127 rfl rfl
theorem mF_X8_12 : (Jvm.Cond.fieldLink "DogVotes$Parish" (12 : Nat) "DogVotes$Parish" "roll" "LDogVotes$Roll;") ∈ tt := tt_1 137 rfl rfl
theorem mF_X3_79 : (Jvm.Cond.fieldLink "DogVotes$Evenings" (79 : Nat) "DogVotes$Parish" "roll" "LDogVotes$Roll;") ∈ tt := tt_1 138 rfl rfl
theorem mF_X11_74 : (Jvm.Cond.fieldLink "DogVotes" (74 : Nat) "DogVotes$Parish" "roll" "LDogVotes$Roll;") ∈ tt := tt_1 139 rfl rfl
theorem mF_X8_23 : (Jvm.Cond.fieldLink "DogVotes$Parish" (23 : Nat) "DogVotes$Parish" "counts" "LDogVotes$Rows;") ∈ tt := tt_1 140 rfl rfl
theorem mF_X11_87 : (Jvm.Cond.fieldLink "DogVotes" (87 : Nat) "DogVotes$Parish" "counts" "LDogVotes$Rows;") ∈ tt := tt_1 141 rfl rfl
theorem mF_X8_27 : (Jvm.Cond.fieldLink "DogVotes$Parish" (27 : Nat) "DogVotes$Parish" "questions" "LDogVotes$Rows;") ∈ tt := tt_1 142 rfl rfl
theorem mF_X3_40 : (Jvm.Cond.fieldLink "DogVotes$Evenings" (40 : Nat) "DogVotes$Parish" "questions" "LDogVotes$Rows;") ∈ tt := tt_1 143 rfl rfl
theorem mF_X11_217 : (Jvm.Cond.fieldLink "DogVotes" (217 : Nat) "DogVotes$Parish" "questions" "LDogVotes$Rows;") ∈ tt := tt_1 144 rfl rfl
theorem mF_X8_30 : (Jvm.Cond.fieldLink "DogVotes$Parish" (30 : Nat) "DogVotes$Parish" "hunger" "I") ∈ tt := tt_1 145 rfl rfl
theorem mF_X3_103 : (Jvm.Cond.fieldLink "DogVotes$Evenings" (103 : Nat) "DogVotes$Parish" "hunger" "I") ∈ tt := tt_1 146 rfl rfl
theorem mF_X11_220 : (Jvm.Cond.fieldLink "DogVotes" (220 : Nat) "DogVotes$Parish" "hunger" "I") ∈ tt := tt_1 147 rfl rfl
theorem mK_X11_27 : (Jvm.Cond.classLink "DogVotes" (27 : Nat) "DogVotes$Ballot") ∈ tt := tt_1 158 rfl rfl
theorem mB_X0 : (Jvm.Cond.instantiable "DogVotes$Ballot" (4 : Nat)) ∈ tt := tt_1 159 rfl rfl
theorem mI_X0_init : (Jvm.Cond.instanceMethod ({ cls := "DogVotes$Ballot", name := "<init>", desc := "()V" } : Jvm.MethodName)) ∈ tt := tt_1 161 rfl rfl
theorem mC_X0_init : (Jvm.Cond.code ({ cls := "DogVotes$Ballot", name := "<init>", desc := "()V" } : Jvm.MethodName) prog_2_method_1_code (1 : Nat) (Option.none : Option Jvm.ClassFile.FieldType)) ∈ tt := tt_1 162 rfl rfl
theorem mM_X0_3 : (Jvm.Cond.methodLink "DogVotes$Ballot" (3 : Nat) ({ cls := "java/lang/Object", name := "<init>", desc := "()V" } : Jvm.MethodName)) ∈ tt := tt_1 163 rfl rfl
theorem mF_X0_9 : (Jvm.Cond.fieldLink "DogVotes$Ballot" (9 : Nat) "DogVotes$Ballot" "left" "I") ∈ tt := tt_1 164 rfl rfl
theorem mF_X4_74 : (Jvm.Cond.fieldLink "DogVotes$Gate" (74 : Nat) "DogVotes$Ballot" "left" "I") ∈ tt := tt_1 165 rfl rfl
theorem mF_X5_91 : (Jvm.Cond.fieldLink "DogVotes$Guesses" (91 : Nat) "DogVotes$Ballot" "left" "I") ∈ tt := tt_1 166 rfl rfl
theorem mF_X11_143 : (Jvm.Cond.fieldLink "DogVotes" (143 : Nat) "DogVotes$Ballot" "left" "I") ∈ tt := tt_1 167 rfl rfl
theorem mF_X0_15 : (Jvm.Cond.fieldLink "DogVotes$Ballot" (15 : Nat) "DogVotes$Ballot" "right" "I") ∈ tt := tt_1 168 rfl rfl
theorem mF_X11_146 : (Jvm.Cond.fieldLink "DogVotes" (146 : Nat) "DogVotes$Ballot" "right" "I") ∈ tt := tt_1 169 rfl rfl
theorem mF_X0_18 : (Jvm.Cond.fieldLink "DogVotes$Ballot" (18 : Nat) "DogVotes$Ballot" "leftDogs" "I") ∈ tt := tt_1 170 rfl rfl
theorem mF_X3_97 : (Jvm.Cond.fieldLink "DogVotes$Evenings" (97 : Nat) "DogVotes$Ballot" "leftDogs" "I") ∈ tt := tt_1 171 rfl rfl
theorem mF_X0_21 : (Jvm.Cond.fieldLink "DogVotes$Ballot" (21 : Nat) "DogVotes$Ballot" "rightDogs" "I") ∈ tt := tt_1 172 rfl rfl
theorem mF_X3_100 : (Jvm.Cond.fieldLink "DogVotes$Evenings" (100 : Nat) "DogVotes$Ballot" "rightDogs" "I") ∈ tt := tt_1 173 rfl rfl
theorem mK_X11_34 : (Jvm.Cond.classLink "DogVotes" (34 : Nat) "DogVotes$Bargain") ∈ tt := tt_1 183 rfl rfl
theorem mB_X1 : (Jvm.Cond.instantiable "DogVotes$Bargain" (2 : Nat)) ∈ tt := tt_1 184 rfl rfl
theorem mI_X1_init : (Jvm.Cond.instanceMethod ({ cls := "DogVotes$Bargain", name := "<init>", desc := "()V" } : Jvm.MethodName)) ∈ tt := tt_1 186 rfl rfl
theorem mC_X1_init : (Jvm.Cond.code ({ cls := "DogVotes$Bargain", name := "<init>", desc := "()V" } : Jvm.MethodName) prog_3_method_1_code (1 : Nat) (Option.none : Option Jvm.ClassFile.FieldType)) ∈ tt := tt_1 187 rfl rfl
theorem mM_X1_3 : (Jvm.Cond.methodLink "DogVotes$Bargain" (3 : Nat) ({ cls := "java/lang/Object", name := "<init>", desc := "()V" } : Jvm.MethodName)) ∈ tt := tt_1 188 rfl rfl
theorem mK_X1_9 : (Jvm.Cond.classLink "DogVotes$Bargain" (9 : Nat) "DogVotes$Ballot") ∈ tt := tt_1 189 rfl rfl
theorem mF_X1_12 : (Jvm.Cond.fieldLink "DogVotes$Bargain" (12 : Nat) "DogVotes$Bargain" "ballot" "LDogVotes$Ballot;") ∈ tt := tt_1 191 rfl rfl
theorem mF_X1_18 : (Jvm.Cond.fieldLink "DogVotes$Bargain" (18 : Nat) "DogVotes$Bargain" "winners" "[I") ∈ tt := tt_1 192 rfl rfl
theorem mK_X11_41 : (Jvm.Cond.classLink "DogVotes" (41 : Nat) "DogVotes$Gate") ∈ tt := tt_1 198 rfl rfl
theorem mB_X4 : (Jvm.Cond.instantiable "DogVotes$Gate" (6 : Nat)) ∈ tt := tt_1 199 rfl rfl
theorem mI_X4_init : (Jvm.Cond.instanceMethod ({ cls := "DogVotes$Gate", name := "<init>", desc := "()V" } : Jvm.MethodName)) ∈ tt := tt_1 201 rfl rfl
theorem mC_X4_init : (Jvm.Cond.code ({ cls := "DogVotes$Gate", name := "<init>", desc := "()V" } : Jvm.MethodName) prog_6_method_1_code (1 : Nat) (Option.none : Option Jvm.ClassFile.FieldType)) ∈ tt := tt_1 202 rfl rfl
theorem mM_X4_3 : (Jvm.Cond.methodLink "DogVotes$Gate" (3 : Nat) ({ cls := "java/lang/Object", name := "<init>", desc := "()V" } : Jvm.MethodName)) ∈ tt := tt_1 203 rfl rfl
theorem mK_X4_15 : (Jvm.Cond.classLink "DogVotes$Gate" (15 : Nat) "DogVotes$Orders") ∈ tt := tt_1 204 rfl rfl
theorem mB_X6 : (Jvm.Cond.instantiable "DogVotes$Orders" (2 : Nat)) ∈ tt := tt_1 205 rfl rfl
theorem mI_X6_init : (Jvm.Cond.instanceMethod ({ cls := "DogVotes$Orders", name := "<init>", desc := "()V" } : Jvm.MethodName)) ∈ tt := tt_1 207 rfl rfl
theorem mC_X6_init : (Jvm.Cond.code ({ cls := "DogVotes$Orders", name := "<init>", desc := "()V" } : Jvm.MethodName) prog_8_method_1_code (1 : Nat) (Option.none : Option Jvm.ClassFile.FieldType)) ∈ tt := tt_1 208 rfl rfl
theorem mM_X6_3 : (Jvm.Cond.methodLink "DogVotes$Orders" (3 : Nat) ({ cls := "java/lang/Object", name := "<init>", desc := "()V" } : Jvm.MethodName)) ∈ tt := tt_1 209 rfl rfl
theorem mF_X6_24 : (Jvm.Cond.fieldLink "DogVotes$Orders" (24 : Nat) "DogVotes$Orders" "size" "I") ∈ tt := tt_1 210 rfl rfl
theorem mF_X4_66 : (Jvm.Cond.fieldLink "DogVotes$Gate" (66 : Nat) "DogVotes$Orders" "size" "I") ∈ tt := tt_1 211 rfl rfl
theorem mF_X3_72 : (Jvm.Cond.fieldLink "DogVotes$Evenings" (72 : Nat) "DogVotes$Orders" "size" "I") ∈ tt := tt_1 212 rfl rfl
theorem mF_X6_9 : (Jvm.Cond.fieldLink "DogVotes$Orders" (9 : Nat) "DogVotes$Orders" "order" "[I") ∈ tt := tt_1 213 rfl rfl
theorem mF_X3_59 : (Jvm.Cond.fieldLink "DogVotes$Evenings" (59 : Nat) "DogVotes$Orders" "order" "[I") ∈ tt := tt_1 214 rfl rfl
theorem mF_X4_69 : (Jvm.Cond.fieldLink "DogVotes$Gate" (69 : Nat) "DogVotes$Orders" "order" "[I") ∈ tt := tt_1 215 rfl rfl
theorem mK_X4_22 : (Jvm.Cond.classLink "DogVotes$Gate" (22 : Nat) "DogVotes$Ballot") ∈ tt := tt_1 221 rfl rfl
theorem mF_X4_29 : (Jvm.Cond.fieldLink "DogVotes$Gate" (29 : Nat) "DogVotes$Gate" "known" "Z") ∈ tt := tt_1 223 rfl rfl
theorem mF_X11_237 : (Jvm.Cond.fieldLink "DogVotes" (237 : Nat) "DogVotes$Gate" "known" "Z") ∈ tt := tt_1 224 rfl rfl
theorem mF_X4_33 : (Jvm.Cond.fieldLink "DogVotes$Gate" (33 : Nat) "DogVotes$Gate" "knownLead" "I") ∈ tt := tt_1 225 rfl rfl
theorem mF_X4_37 : (Jvm.Cond.fieldLink "DogVotes$Gate" (37 : Nat) "DogVotes$Gate" "most" "I") ∈ tt := tt_1 226 rfl rfl
theorem mF_X11_162 : (Jvm.Cond.fieldLink "DogVotes" (162 : Nat) "DogVotes$Gate" "most" "I") ∈ tt := tt_1 227 rfl rfl
theorem mF_X4_9 : (Jvm.Cond.fieldLink "DogVotes$Gate" (9 : Nat) "DogVotes$Gate" "order" "[I") ∈ tt := tt_1 228 rfl rfl
theorem mF_X11_165 : (Jvm.Cond.fieldLink "DogVotes" (165 : Nat) "DogVotes$Gate" "order" "[I") ∈ tt := tt_1 229 rfl rfl
theorem mF_X4_18 : (Jvm.Cond.fieldLink "DogVotes$Gate" (18 : Nat) "DogVotes$Gate" "orders" "LDogVotes$Orders;") ∈ tt := tt_1 230 rfl rfl
theorem mF_X4_25 : (Jvm.Cond.fieldLink "DogVotes$Gate" (25 : Nat) "DogVotes$Gate" "ballot" "LDogVotes$Ballot;") ∈ tt := tt_1 231 rfl rfl
theorem mK_X11_48 : (Jvm.Cond.classLink "DogVotes" (48 : Nat) "DogVotes$Guesses") ∈ tt := tt_2 5 rfl rfl
theorem mB_X5 : (Jvm.Cond.instantiable "DogVotes$Guesses" (9 : Nat)) ∈ tt := tt_2 6 rfl rfl
theorem mI_X5_init : (Jvm.Cond.instanceMethod ({ cls := "DogVotes$Guesses", name := "<init>", desc := "()V" } : Jvm.MethodName)) ∈ tt := tt_2 8 rfl rfl
theorem mC_X5_init : (Jvm.Cond.code ({ cls := "DogVotes$Guesses", name := "<init>", desc := "()V" } : Jvm.MethodName) prog_7_method_1_code (1 : Nat) (Option.none : Option Jvm.ClassFile.FieldType)) ∈ tt := tt_2 9 rfl rfl
theorem mM_X5_3 : (Jvm.Cond.methodLink "DogVotes$Guesses" (3 : Nat) ({ cls := "java/lang/Object", name := "<init>", desc := "()V" } : Jvm.MethodName)) ∈ tt := tt_2 10 rfl rfl
theorem mK_X5_24 : (Jvm.Cond.classLink "DogVotes$Guesses" (24 : Nat) "DogVotes$Roll") ∈ tt := tt_2 11 rfl rfl
theorem mK_X5_31 : (Jvm.Cond.classLink "DogVotes$Guesses" (31 : Nat) "DogVotes$Ballot") ∈ tt := tt_2 13 rfl rfl
theorem mF_X5_38 : (Jvm.Cond.fieldLink "DogVotes$Guesses" (38 : Nat) "DogVotes$Guesses" "known" "Z") ∈ tt := tt_2 15 rfl rfl
theorem mF_X11_241 : (Jvm.Cond.fieldLink "DogVotes" (241 : Nat) "DogVotes$Guesses" "known" "Z") ∈ tt := tt_2 16 rfl rfl
theorem mF_X5_46 : (Jvm.Cond.fieldLink "DogVotes$Guesses" (46 : Nat) "DogVotes$Guesses" "ways" "I") ∈ tt := tt_2 17 rfl rfl
theorem mF_X11_204 : (Jvm.Cond.fieldLink "DogVotes" (204 : Nat) "DogVotes$Guesses" "ways" "I") ∈ tt := tt_2 18 rfl rfl
theorem mF_X5_65 : (Jvm.Cond.fieldLink "DogVotes$Guesses" (65 : Nat) "DogVotes$Guesses" "size" "I") ∈ tt := tt_2 19 rfl rfl
theorem mF_X11_207 : (Jvm.Cond.fieldLink "DogVotes" (207 : Nat) "DogVotes$Guesses" "size" "I") ∈ tt := tt_2 20 rfl rfl
theorem mF_X5_9 : (Jvm.Cond.fieldLink "DogVotes$Guesses" (9 : Nat) "DogVotes$Guesses" "untold" "[I") ∈ tt := tt_2 21 rfl rfl
theorem mF_X5_15 : (Jvm.Cond.fieldLink "DogVotes$Guesses" (15 : Nat) "DogVotes$Guesses" "first" "[I") ∈ tt := tt_2 22 rfl rfl
theorem mF_X11_208 : (Jvm.Cond.fieldLink "DogVotes" (208 : Nat) "DogVotes$Guesses" "first" "[I") ∈ tt := tt_2 23 rfl rfl
theorem mF_X5_18 : (Jvm.Cond.fieldLink "DogVotes$Guesses" (18 : Nat) "DogVotes$Guesses" "least" "[I") ∈ tt := tt_2 24 rfl rfl
theorem mF_X11_211 : (Jvm.Cond.fieldLink "DogVotes" (211 : Nat) "DogVotes$Guesses" "least" "[I") ∈ tt := tt_2 25 rfl rfl
theorem mF_X5_21 : (Jvm.Cond.fieldLink "DogVotes$Guesses" (21 : Nat) "DogVotes$Guesses" "greatest" "[I") ∈ tt := tt_2 26 rfl rfl
theorem mF_X11_214 : (Jvm.Cond.fieldLink "DogVotes" (214 : Nat) "DogVotes$Guesses" "greatest" "[I") ∈ tt := tt_2 27 rfl rfl
theorem mF_X5_27 : (Jvm.Cond.fieldLink "DogVotes$Guesses" (27 : Nat) "DogVotes$Guesses" "guess" "LDogVotes$Roll;") ∈ tt := tt_2 28 rfl rfl
theorem mF_X5_34 : (Jvm.Cond.fieldLink "DogVotes$Guesses" (34 : Nat) "DogVotes$Guesses" "ballot" "LDogVotes$Ballot;") ∈ tt := tt_2 29 rfl rfl
theorem mK_X11_55 : (Jvm.Cond.classLink "DogVotes" (55 : Nat) "DogVotes$Evenings") ∈ tt := tt_2 49 rfl rfl
theorem mB_X3 : (Jvm.Cond.instantiable "DogVotes$Evenings" (7 : Nat)) ∈ tt := tt_2 50 rfl rfl
theorem mI_X3_init : (Jvm.Cond.instanceMethod ({ cls := "DogVotes$Evenings", name := "<init>", desc := "()V" } : Jvm.MethodName)) ∈ tt := tt_2 52 rfl rfl
theorem mC_X3_init : (Jvm.Cond.code ({ cls := "DogVotes$Evenings", name := "<init>", desc := "()V" } : Jvm.MethodName) prog_5_method_1_code (1 : Nat) (Option.none : Option Jvm.ClassFile.FieldType)) ∈ tt := tt_2 53 rfl rfl
theorem mM_X3_3 : (Jvm.Cond.methodLink "DogVotes$Evenings" (3 : Nat) ({ cls := "java/lang/Object", name := "<init>", desc := "()V" } : Jvm.MethodName)) ∈ tt := tt_2 54 rfl rfl
theorem mK_X3_15 : (Jvm.Cond.classLink "DogVotes$Evenings" (15 : Nat) "DogVotes$Orders") ∈ tt := tt_2 55 rfl rfl
theorem mK_X3_22 : (Jvm.Cond.classLink "DogVotes$Evenings" (22 : Nat) "DogVotes$Ballot") ∈ tt := tt_2 57 rfl rfl
theorem mF_X3_32 : (Jvm.Cond.fieldLink "DogVotes$Evenings" (32 : Nat) "DogVotes$Evenings" "known" "Z") ∈ tt := tt_2 59 rfl rfl
theorem mF_X11_242 : (Jvm.Cond.fieldLink "DogVotes" (242 : Nat) "DogVotes$Evenings" "known" "Z") ∈ tt := tt_2 60 rfl rfl
theorem mF_X3_36 : (Jvm.Cond.fieldLink "DogVotes$Evenings" (36 : Nat) "DogVotes$Evenings" "most" "I") ∈ tt := tt_2 61 rfl rfl
theorem mF_X11_226 : (Jvm.Cond.fieldLink "DogVotes" (226 : Nat) "DogVotes$Evenings" "most" "I") ∈ tt := tt_2 62 rfl rfl
theorem mF_X3_9 : (Jvm.Cond.fieldLink "DogVotes$Evenings" (9 : Nat) "DogVotes$Evenings" "order" "[I") ∈ tt := tt_2 63 rfl rfl
theorem mF_X11_227 : (Jvm.Cond.fieldLink "DogVotes" (227 : Nat) "DogVotes$Evenings" "order" "[I") ∈ tt := tt_2 64 rfl rfl
theorem mF_X3_18 : (Jvm.Cond.fieldLink "DogVotes$Evenings" (18 : Nat) "DogVotes$Evenings" "orders" "LDogVotes$Orders;") ∈ tt := tt_2 65 rfl rfl
theorem mF_X3_25 : (Jvm.Cond.fieldLink "DogVotes$Evenings" (25 : Nat) "DogVotes$Evenings" "ballot" "LDogVotes$Ballot;") ∈ tt := tt_2 66 rfl rfl
theorem mF_X3_29 : (Jvm.Cond.fieldLink "DogVotes$Evenings" (29 : Nat) "DogVotes$Evenings" "meals" "[I") ∈ tt := tt_2 67 rfl rfl
theorem mF_X3_83 : (Jvm.Cond.fieldLink "DogVotes$Evenings" (83 : Nat) "DogVotes$Evenings" "full" "I") ∈ tt := tt_2 68 rfl rfl
theorem mF_X11_12 : (Jvm.Cond.fieldLink "DogVotes" (12 : Nat) "DogVotes" "pad" "LDogVotes$Pad;") ∈ tt := tt_2 84 rfl rfl
theorem mF_X11_19 : (Jvm.Cond.fieldLink "DogVotes" (19 : Nat) "DogVotes" "parish" "LDogVotes$Parish;") ∈ tt := tt_2 85 rfl rfl
theorem mF_X11_23 : (Jvm.Cond.fieldLink "DogVotes" (23 : Nat) "DogVotes" "images" "[LDogVotes$Parish;") ∈ tt := tt_2 86 rfl rfl
theorem mF_X11_231 : (Jvm.Cond.fieldLink "DogVotes" (231 : Nat) "DogVotes" "keptImages" "I") ∈ tt := tt_2 87 rfl rfl
theorem mF_X11_30 : (Jvm.Cond.fieldLink "DogVotes" (30 : Nat) "DogVotes" "ballot" "LDogVotes$Ballot;") ∈ tt := tt_2 88 rfl rfl
theorem mF_X11_37 : (Jvm.Cond.fieldLink "DogVotes" (37 : Nat) "DogVotes" "bargain" "LDogVotes$Bargain;") ∈ tt := tt_2 89 rfl rfl
theorem mF_X11_44 : (Jvm.Cond.fieldLink "DogVotes" (44 : Nat) "DogVotes" "gate" "LDogVotes$Gate;") ∈ tt := tt_2 90 rfl rfl
theorem mF_X11_51 : (Jvm.Cond.fieldLink "DogVotes" (51 : Nat) "DogVotes" "guesses" "LDogVotes$Guesses;") ∈ tt := tt_2 91 rfl rfl
theorem mF_X11_58 : (Jvm.Cond.fieldLink "DogVotes" (58 : Nat) "DogVotes" "evenings" "LDogVotes$Evenings;") ∈ tt := tt_2 92 rfl rfl
theorem mM_L_13 : (Jvm.Cond.methodLink "DogVotesLaw" (13 : Nat) ({ cls := "DogVotes", name := "say", desc := "(I)I" } : Jvm.MethodName)) ∈ tt := tt_2 112 rfl rfl
theorem mI_X11_say : (Jvm.Cond.instanceMethod ({ cls := "DogVotes", name := "say", desc := "(I)I" } : Jvm.MethodName)) ∈ tt := tt_2 113 rfl rfl
theorem mS_X11_say : (Jvm.Cond.selects "DogVotes" ({ cls := "DogVotes", name := "say", desc := "(I)I" } : Jvm.MethodName) ({ cls := "DogVotes", name := "say", desc := "(I)I" } : Jvm.MethodName)) ∈ tt := tt_2 114 rfl rfl
theorem mC_X11_say : (Jvm.Cond.code ({ cls := "DogVotes", name := "say", desc := "(I)I" } : Jvm.MethodName) prog_1_method_2_code (2 : Nat) (Option.some Jvm.ClassFile.FieldType.int)) ∈ tt := tt_2 115 rfl rfl
theorem mM_X11_62 : (Jvm.Cond.methodLink "DogVotes" (62 : Nat) ({ cls := "DogVotes$Pad", name := "add", desc := "(I)Z" } : Jvm.MethodName)) ∈ tt := tt_2 116 rfl rfl
theorem mI_X7_add : (Jvm.Cond.instanceMethod ({ cls := "DogVotes$Pad", name := "add", desc := "(I)Z" } : Jvm.MethodName)) ∈ tt := tt_2 117 rfl rfl
theorem mS_X7_add : (Jvm.Cond.selects "DogVotes$Pad" ({ cls := "DogVotes$Pad", name := "add", desc := "(I)Z" } : Jvm.MethodName) ({ cls := "DogVotes$Pad", name := "add", desc := "(I)Z" } : Jvm.MethodName)) ∈ tt := tt_2 118 rfl rfl
theorem mC_X7_add : (Jvm.Cond.code ({ cls := "DogVotes$Pad", name := "add", desc := "(I)Z" } : Jvm.MethodName) prog_9_method_2_code (2 : Nat) (Option.some Jvm.ClassFile.FieldType.boolean)) ∈ tt := tt_2 119 rfl rfl
theorem mM_L_18 : (Jvm.Cond.methodLink "DogVotesLaw" (18 : Nat) ({ cls := "DogVotes", name := "wipe", desc := "()I" } : Jvm.MethodName)) ∈ tt := tt_2 120 rfl rfl
theorem mI_X11_wipe : (Jvm.Cond.instanceMethod ({ cls := "DogVotes", name := "wipe", desc := "()I" } : Jvm.MethodName)) ∈ tt := tt_2 121 rfl rfl
theorem mS_X11_wipe : (Jvm.Cond.selects "DogVotes" ({ cls := "DogVotes", name := "wipe", desc := "()I" } : Jvm.MethodName) ({ cls := "DogVotes", name := "wipe", desc := "()I" } : Jvm.MethodName)) ∈ tt := tt_2 122 rfl rfl
theorem mC_X11_wipe : (Jvm.Cond.code ({ cls := "DogVotes", name := "wipe", desc := "()I" } : Jvm.MethodName) prog_1_method_3_code (2 : Nat) (Option.some Jvm.ClassFile.FieldType.int)) ∈ tt := tt_2 123 rfl rfl
theorem mM_L_23 : (Jvm.Cond.methodLink "DogVotesLaw" (23 : Nat) ({ cls := "DogVotes", name := "fault", desc := "()I" } : Jvm.MethodName)) ∈ tt := tt_2 124 rfl rfl
theorem mI_X11_fault : (Jvm.Cond.instanceMethod ({ cls := "DogVotes", name := "fault", desc := "()I" } : Jvm.MethodName)) ∈ tt := tt_2 125 rfl rfl
theorem mS_X11_fault : (Jvm.Cond.selects "DogVotes" ({ cls := "DogVotes", name := "fault", desc := "()I" } : Jvm.MethodName) ({ cls := "DogVotes", name := "fault", desc := "()I" } : Jvm.MethodName)) ∈ tt := tt_2 126 rfl rfl
theorem mC_X11_fault : (Jvm.Cond.code ({ cls := "DogVotes", name := "fault", desc := "()I" } : Jvm.MethodName) prog_1_method_4_code (1 : Nat) (Option.some Jvm.ClassFile.FieldType.int)) ∈ tt := tt_2 127 rfl rfl
theorem mM_X11_70 : (Jvm.Cond.methodLink "DogVotes" (70 : Nat) ({ cls := "DogVotes$Pad", name := "firstFault", desc := "()I" } : Jvm.MethodName)) ∈ tt := tt_2 128 rfl rfl
theorem mI_X7_firstFault : (Jvm.Cond.instanceMethod ({ cls := "DogVotes$Pad", name := "firstFault", desc := "()I" } : Jvm.MethodName)) ∈ tt := tt_2 129 rfl rfl
theorem mS_X7_firstFault : (Jvm.Cond.selects "DogVotes$Pad" ({ cls := "DogVotes$Pad", name := "firstFault", desc := "()I" } : Jvm.MethodName) ({ cls := "DogVotes$Pad", name := "firstFault", desc := "()I" } : Jvm.MethodName)) ∈ tt := tt_2 130 rfl rfl
theorem mC_X7_firstFault : (Jvm.Cond.code ({ cls := "DogVotes$Pad", name := "firstFault", desc := "()I" } : Jvm.MethodName) prog_9_method_3_code (2 : Nat) (Option.some Jvm.ClassFile.FieldType.int)) ∈ tt := tt_2 131 rfl rfl
theorem mM_X7_26 : (Jvm.Cond.methodLink "DogVotes$Pad" (26 : Nat) ({ cls := "DogVotes$Roll", name := "clear", desc := "()V" } : Jvm.MethodName)) ∈ tt := tt_2 132 rfl rfl
theorem mI_X9_clear : (Jvm.Cond.instanceMethod ({ cls := "DogVotes$Roll", name := "clear", desc := "()V" } : Jvm.MethodName)) ∈ tt := tt_2 133 rfl rfl
theorem mS_X9_clear : (Jvm.Cond.selects "DogVotes$Roll" ({ cls := "DogVotes$Roll", name := "clear", desc := "()V" } : Jvm.MethodName) ({ cls := "DogVotes$Roll", name := "clear", desc := "()V" } : Jvm.MethodName)) ∈ tt := tt_2 134 rfl rfl
theorem mC_X9_clear : (Jvm.Cond.code ({ cls := "DogVotes$Roll", name := "clear", desc := "()V" } : Jvm.MethodName) prog_11_method_2_code (2 : Nat) (Option.none : Option Jvm.ClassFile.FieldType)) ∈ tt := tt_2 135 rfl rfl
theorem mM_X7_32 : (Jvm.Cond.methodLink "DogVotes$Pad" (32 : Nat) ({ cls := "DogVotes$Pad", name := "takes", desc := "(I)Z" } : Jvm.MethodName)) ∈ tt := tt_2 136 rfl rfl
theorem mI_X7_takes : (Jvm.Cond.instanceMethod ({ cls := "DogVotes$Pad", name := "takes", desc := "(I)Z" } : Jvm.MethodName)) ∈ tt := tt_2 138 rfl rfl
theorem mC_X7_takes : (Jvm.Cond.code ({ cls := "DogVotes$Pad", name := "takes", desc := "(I)Z" } : Jvm.MethodName) prog_9_method_4_code (2 : Nat) (Option.some Jvm.ClassFile.FieldType.boolean)) ∈ tt := tt_2 139 rfl rfl
theorem mM_X7_36 : (Jvm.Cond.methodLink "DogVotes$Pad" (36 : Nat) ({ cls := "DogVotes$Pad", name := "takesHalves", desc := "(I)Z" } : Jvm.MethodName)) ∈ tt := tt_2 140 rfl rfl
theorem mI_X7_takesHalves : (Jvm.Cond.instanceMethod ({ cls := "DogVotes$Pad", name := "takesHalves", desc := "(I)Z" } : Jvm.MethodName)) ∈ tt := tt_2 142 rfl rfl
theorem mC_X7_takesHalves : (Jvm.Cond.code ({ cls := "DogVotes$Pad", name := "takesHalves", desc := "(I)Z" } : Jvm.MethodName) prog_9_method_5_code (2 : Nat) (Option.some Jvm.ClassFile.FieldType.boolean)) ∈ tt := tt_2 143 rfl rfl
theorem mM_X7_39 : (Jvm.Cond.methodLink "DogVotes$Pad" (39 : Nat) ({ cls := "DogVotes$Pad", name := "takesLikes", desc := "(I)Z" } : Jvm.MethodName)) ∈ tt := tt_2 144 rfl rfl
theorem mI_X7_takesLikes : (Jvm.Cond.instanceMethod ({ cls := "DogVotes$Pad", name := "takesLikes", desc := "(I)Z" } : Jvm.MethodName)) ∈ tt := tt_2 146 rfl rfl
theorem mC_X7_takesLikes : (Jvm.Cond.code ({ cls := "DogVotes$Pad", name := "takesLikes", desc := "(I)Z" } : Jvm.MethodName) prog_9_method_6_code (2 : Nat) (Option.some Jvm.ClassFile.FieldType.boolean)) ∈ tt := tt_2 147 rfl rfl
theorem mM_X7_64 : (Jvm.Cond.methodLink "DogVotes$Pad" (64 : Nat) ({ cls := "java/lang/Integer", name := "bitCount", desc := "(I)I" } : Jvm.MethodName)) ∈ tt := tt_2 148 rfl rfl
theorem mT_J6_bitCount_0f7a4 : (Jvm.Cond.static ({ cls := "java/lang/Integer", name := "bitCount", desc := "(I)I" } : Jvm.MethodName)) ∈ tt := tt_2 149 rfl rfl
theorem mC_J6_bitCount_0f7a4 : (Jvm.Cond.code ({ cls := "java/lang/Integer", name := "bitCount", desc := "(I)I" } : Jvm.MethodName) prog_15_method_49_code (1 : Nat) (Option.some Jvm.ClassFile.FieldType.int)) ∈ tt := tt_2 150 rfl rfl
theorem mD_J6_265 : (Jvm.Cond.constant "java/lang/Integer" (265 : Nat) (1431655765 : Int32)) ∈ tt := tt_2 151 rfl rfl
theorem mD_J6_266 : (Jvm.Cond.constant "java/lang/Integer" (266 : Nat) (858993459 : Int32)) ∈ tt := tt_2 152 rfl rfl
theorem mD_J6_267 : (Jvm.Cond.constant "java/lang/Integer" (267 : Nat) (252645135 : Int32)) ∈ tt := tt_2 153 rfl rfl
theorem mM_X7_42 : (Jvm.Cond.methodLink "DogVotes$Pad" (42 : Nat) ({ cls := "DogVotes$Pad", name := "takesDigit", desc := "(I)Z" } : Jvm.MethodName)) ∈ tt := tt_2 154 rfl rfl
theorem mI_X7_takesDigit : (Jvm.Cond.instanceMethod ({ cls := "DogVotes$Pad", name := "takesDigit", desc := "(I)Z" } : Jvm.MethodName)) ∈ tt := tt_2 156 rfl rfl
theorem mC_X7_takesDigit : (Jvm.Cond.code ({ cls := "DogVotes$Pad", name := "takesDigit", desc := "(I)Z" } : Jvm.MethodName) prog_9_method_7_code (2 : Nat) (Option.some Jvm.ClassFile.FieldType.boolean)) ∈ tt := tt_2 157 rfl rfl
theorem mM_X7_45 : (Jvm.Cond.methodLink "DogVotes$Pad" (45 : Nat) ({ cls := "DogVotes$Pad", name := "takesFearMark", desc := "()Z" } : Jvm.MethodName)) ∈ tt := tt_2 158 rfl rfl
theorem mI_X7_takesFearMark : (Jvm.Cond.instanceMethod ({ cls := "DogVotes$Pad", name := "takesFearMark", desc := "()Z" } : Jvm.MethodName)) ∈ tt := tt_2 160 rfl rfl
theorem mC_X7_takesFearMark : (Jvm.Cond.code ({ cls := "DogVotes$Pad", name := "takesFearMark", desc := "()Z" } : Jvm.MethodName) prog_9_method_8_code (1 : Nat) (Option.some Jvm.ClassFile.FieldType.boolean)) ∈ tt := tt_2 161 rfl rfl
theorem mM_X7_49 : (Jvm.Cond.methodLink "DogVotes$Pad" (49 : Nat) ({ cls := "DogVotes$Pad", name := "takesEnd", desc := "(I)Z" } : Jvm.MethodName)) ∈ tt := tt_2 162 rfl rfl
theorem mI_X7_takesEnd : (Jvm.Cond.instanceMethod ({ cls := "DogVotes$Pad", name := "takesEnd", desc := "(I)Z" } : Jvm.MethodName)) ∈ tt := tt_2 164 rfl rfl
theorem mC_X7_takesEnd : (Jvm.Cond.code ({ cls := "DogVotes$Pad", name := "takesEnd", desc := "(I)Z" } : Jvm.MethodName) prog_9_method_10_code (2 : Nat) (Option.some Jvm.ClassFile.FieldType.boolean)) ∈ tt := tt_2 165 rfl rfl
theorem mM_X7_52 : (Jvm.Cond.methodLink "DogVotes$Pad" (52 : Nat) ({ cls := "DogVotes$Pad", name := "takesFeared", desc := "(I)Z" } : Jvm.MethodName)) ∈ tt := tt_2 166 rfl rfl
theorem mI_X7_takesFeared : (Jvm.Cond.instanceMethod ({ cls := "DogVotes$Pad", name := "takesFeared", desc := "(I)Z" } : Jvm.MethodName)) ∈ tt := tt_2 168 rfl rfl
theorem mC_X7_takesFeared : (Jvm.Cond.code ({ cls := "DogVotes$Pad", name := "takesFeared", desc := "(I)Z" } : Jvm.MethodName) prog_9_method_9_code (3 : Nat) (Option.some Jvm.ClassFile.FieldType.boolean)) ∈ tt := tt_2 169 rfl rfl
theorem mM_L_27 : (Jvm.Cond.methodLink "DogVotesLaw" (27 : Nat) ({ cls := "DogVotes", name := "roll", desc := "()I" } : Jvm.MethodName)) ∈ tt := tt_2 170 rfl rfl
theorem mI_X11_roll : (Jvm.Cond.instanceMethod ({ cls := "DogVotes", name := "roll", desc := "()I" } : Jvm.MethodName)) ∈ tt := tt_2 171 rfl rfl
theorem mS_X11_roll : (Jvm.Cond.selects "DogVotes" ({ cls := "DogVotes", name := "roll", desc := "()I" } : Jvm.MethodName) ({ cls := "DogVotes", name := "roll", desc := "()I" } : Jvm.MethodName)) ∈ tt := tt_2 172 rfl rfl
theorem mC_X11_roll : (Jvm.Cond.code ({ cls := "DogVotes", name := "roll", desc := "()I" } : Jvm.MethodName) prog_1_method_5_code (1 : Nat) (Option.some Jvm.ClassFile.FieldType.int)) ∈ tt := tt_2 173 rfl rfl
theorem mM_X11_81 : (Jvm.Cond.methodLink "DogVotes" (81 : Nat) ({ cls := "DogVotes$Roll", name := "copyFrom", desc := "(LDogVotes$Roll;)V" } : Jvm.MethodName)) ∈ tt := tt_2 174 rfl rfl
theorem mI_X9_copyFrom : (Jvm.Cond.instanceMethod ({ cls := "DogVotes$Roll", name := "copyFrom", desc := "(LDogVotes$Roll;)V" } : Jvm.MethodName)) ∈ tt := tt_2 175 rfl rfl
theorem mS_X9_copyFrom : (Jvm.Cond.selects "DogVotes$Roll" ({ cls := "DogVotes$Roll", name := "copyFrom", desc := "(LDogVotes$Roll;)V" } : Jvm.MethodName) ({ cls := "DogVotes$Roll", name := "copyFrom", desc := "(LDogVotes$Roll;)V" } : Jvm.MethodName)) ∈ tt := tt_2 176 rfl rfl
theorem mC_X9_copyFrom : (Jvm.Cond.code ({ cls := "DogVotes$Roll", name := "copyFrom", desc := "(LDogVotes$Roll;)V" } : Jvm.MethodName) prog_11_method_3_code (2 : Nat) (Option.none : Option Jvm.ClassFile.FieldType)) ∈ tt := tt_2 177 rfl rfl
theorem mM_X9_31 : (Jvm.Cond.methodLink "DogVotes$Roll" (31 : Nat) ({ cls := "java/lang/System", name := "arraycopy", desc := "(Ljava/lang/Object;ILjava/lang/Object;II)V" } : Jvm.MethodName)) ∈ tt := tt_2 178 rfl rfl
theorem mT_arraycopy : (Jvm.Cond.static ({ cls := "java/lang/System", name := "arraycopy", desc := "(Ljava/lang/Object;ILjava/lang/Object;II)V" } : Jvm.MethodName)) ∈ tt := tt_2 179 rfl rfl
theorem mV_arraycopy : (Jvm.Cond.native ({ cls := "java/lang/System", name := "arraycopy", desc := "(Ljava/lang/Object;ILjava/lang/Object;II)V" } : Jvm.MethodName)) ∈ tt := tt_2 180 rfl rfl
theorem mM_X11_94 : (Jvm.Cond.methodLink "DogVotes" (94 : Nat) ({ cls := "DogVotes", name := "changed", desc := "()V" } : Jvm.MethodName)) ∈ tt := tt_2 181 rfl rfl
theorem mI_X11_changed : (Jvm.Cond.instanceMethod ({ cls := "DogVotes", name := "changed", desc := "()V" } : Jvm.MethodName)) ∈ tt := tt_2 183 rfl rfl
theorem mC_X11_changed : (Jvm.Cond.code ({ cls := "DogVotes", name := "changed", desc := "()V" } : Jvm.MethodName) prog_1_method_29_code (1 : Nat) (Option.none : Option Jvm.ClassFile.FieldType)) ∈ tt := tt_2 184 rfl rfl
theorem mM_L_31 : (Jvm.Cond.methodLink "DogVotesLaw" (31 : Nat) ({ cls := "DogVotes", name := "dog", desc := "(II)I" } : Jvm.MethodName)) ∈ tt := tt_2 185 rfl rfl
theorem mI_X11_dog : (Jvm.Cond.instanceMethod ({ cls := "DogVotes", name := "dog", desc := "(II)I" } : Jvm.MethodName)) ∈ tt := tt_2 186 rfl rfl
theorem mS_X11_dog : (Jvm.Cond.selects "DogVotes" ({ cls := "DogVotes", name := "dog", desc := "(II)I" } : Jvm.MethodName) ({ cls := "DogVotes", name := "dog", desc := "(II)I" } : Jvm.MethodName)) ∈ tt := tt_2 187 rfl rfl
theorem mC_X11_dog : (Jvm.Cond.code ({ cls := "DogVotes", name := "dog", desc := "(II)I" } : Jvm.MethodName) prog_1_method_6_code (4 : Nat) (Option.some Jvm.ClassFile.FieldType.int)) ∈ tt := tt_2 188 rfl rfl
theorem mM_X11_100 : (Jvm.Cond.methodLink "DogVotes" (100 : Nat) ({ cls := "DogVotes$Roll", name := "has", desc := "(I)Z" } : Jvm.MethodName)) ∈ tt := tt_2 189 rfl rfl
theorem mI_X9_has : (Jvm.Cond.instanceMethod ({ cls := "DogVotes$Roll", name := "has", desc := "(I)Z" } : Jvm.MethodName)) ∈ tt := tt_2 190 rfl rfl
theorem mS_X9_has : (Jvm.Cond.selects "DogVotes$Roll" ({ cls := "DogVotes$Roll", name := "has", desc := "(I)Z" } : Jvm.MethodName) ({ cls := "DogVotes$Roll", name := "has", desc := "(I)Z" } : Jvm.MethodName)) ∈ tt := tt_2 191 rfl rfl
theorem mC_X9_has : (Jvm.Cond.code ({ cls := "DogVotes$Roll", name := "has", desc := "(I)Z" } : Jvm.MethodName) prog_11_method_4_code (2 : Nat) (Option.some Jvm.ClassFile.FieldType.boolean)) ∈ tt := tt_2 192 rfl rfl
theorem mM_X11_107 : (Jvm.Cond.methodLink "DogVotes" (107 : Nat) ({ cls := "DogVotes$Roll", name := "isTold", desc := "(I)Z" } : Jvm.MethodName)) ∈ tt := tt_2 193 rfl rfl
theorem mI_X9_isTold : (Jvm.Cond.instanceMethod ({ cls := "DogVotes$Roll", name := "isTold", desc := "(I)Z" } : Jvm.MethodName)) ∈ tt := tt_2 194 rfl rfl
theorem mS_X9_isTold : (Jvm.Cond.selects "DogVotes$Roll" ({ cls := "DogVotes$Roll", name := "isTold", desc := "(I)Z" } : Jvm.MethodName) ({ cls := "DogVotes$Roll", name := "isTold", desc := "(I)Z" } : Jvm.MethodName)) ∈ tt := tt_2 195 rfl rfl
theorem mC_X9_isTold : (Jvm.Cond.code ({ cls := "DogVotes$Roll", name := "isTold", desc := "(I)Z" } : Jvm.MethodName) prog_11_method_5_code (2 : Nat) (Option.some Jvm.ClassFile.FieldType.boolean)) ∈ tt := tt_2 196 rfl rfl
theorem mM_L_36 : (Jvm.Cond.methodLink "DogVotesLaw" (36 : Nat) ({ cls := "DogVotes", name := "heir", desc := "(II)I" } : Jvm.MethodName)) ∈ tt := tt_2 197 rfl rfl
theorem mI_X11_heir : (Jvm.Cond.instanceMethod ({ cls := "DogVotes", name := "heir", desc := "(II)I" } : Jvm.MethodName)) ∈ tt := tt_2 198 rfl rfl
theorem mS_X11_heir : (Jvm.Cond.selects "DogVotes" ({ cls := "DogVotes", name := "heir", desc := "(II)I" } : Jvm.MethodName) ({ cls := "DogVotes", name := "heir", desc := "(II)I" } : Jvm.MethodName)) ∈ tt := tt_2 199 rfl rfl
theorem mC_X11_heir : (Jvm.Cond.code ({ cls := "DogVotes", name := "heir", desc := "(II)I" } : Jvm.MethodName) prog_1_method_7_code (5 : Nat) (Option.some Jvm.ClassFile.FieldType.int)) ∈ tt := tt_2 200 rfl rfl
theorem mM_X11_119 : (Jvm.Cond.methodLink "DogVotes" (119 : Nat) ({ cls := "DogVotes", name := "heirTold", desc := "(I)I" } : Jvm.MethodName)) ∈ tt := tt_2 201 rfl rfl
theorem mT_X11_heirTold : (Jvm.Cond.static ({ cls := "DogVotes", name := "heirTold", desc := "(I)I" } : Jvm.MethodName)) ∈ tt := tt_2 202 rfl rfl
theorem mC_X11_heirTold : (Jvm.Cond.code ({ cls := "DogVotes", name := "heirTold", desc := "(I)I" } : Jvm.MethodName) prog_1_method_32_code (1 : Nat) (Option.some Jvm.ClassFile.FieldType.int)) ∈ tt := tt_2 203 rfl rfl
theorem mM_L_40 : (Jvm.Cond.methodLink "DogVotesLaw" (40 : Nat) ({ cls := "DogVotes", name := "dies", desc := "(I)I" } : Jvm.MethodName)) ∈ tt := tt_2 204 rfl rfl
theorem mI_X11_dies : (Jvm.Cond.instanceMethod ({ cls := "DogVotes", name := "dies", desc := "(I)I" } : Jvm.MethodName)) ∈ tt := tt_2 205 rfl rfl
theorem mS_X11_dies : (Jvm.Cond.selects "DogVotes" ({ cls := "DogVotes", name := "dies", desc := "(I)I" } : Jvm.MethodName) ({ cls := "DogVotes", name := "dies", desc := "(I)I" } : Jvm.MethodName)) ∈ tt := tt_2 206 rfl rfl
theorem mC_X11_dies : (Jvm.Cond.code ({ cls := "DogVotes", name := "dies", desc := "(I)I" } : Jvm.MethodName) prog_1_method_8_code (3 : Nat) (Option.some Jvm.ClassFile.FieldType.int)) ∈ tt := tt_2 207 rfl rfl
theorem mM_X11_123 : (Jvm.Cond.methodLink "DogVotes" (123 : Nat) ({ cls := "DogVotes$Roll", name := "isDead", desc := "(I)Z" } : Jvm.MethodName)) ∈ tt := tt_2 208 rfl rfl
theorem mI_X9_isDead : (Jvm.Cond.instanceMethod ({ cls := "DogVotes$Roll", name := "isDead", desc := "(I)Z" } : Jvm.MethodName)) ∈ tt := tt_2 209 rfl rfl
theorem mS_X9_isDead : (Jvm.Cond.selects "DogVotes$Roll" ({ cls := "DogVotes$Roll", name := "isDead", desc := "(I)Z" } : Jvm.MethodName) ({ cls := "DogVotes$Roll", name := "isDead", desc := "(I)Z" } : Jvm.MethodName)) ∈ tt := tt_2 210 rfl rfl
theorem mC_X9_isDead : (Jvm.Cond.code ({ cls := "DogVotes$Roll", name := "isDead", desc := "(I)Z" } : Jvm.MethodName) prog_11_method_6_code (2 : Nat) (Option.some Jvm.ClassFile.FieldType.boolean)) ∈ tt := tt_2 211 rfl rfl
theorem mM_X11_126 : (Jvm.Cond.methodLink "DogVotes" (126 : Nat) ({ cls := "DogVotes$Roll", name := "bury", desc := "(I)I" } : Jvm.MethodName)) ∈ tt := tt_2 212 rfl rfl
theorem mI_X9_bury : (Jvm.Cond.instanceMethod ({ cls := "DogVotes$Roll", name := "bury", desc := "(I)I" } : Jvm.MethodName)) ∈ tt := tt_2 213 rfl rfl
theorem mS_X9_bury : (Jvm.Cond.selects "DogVotes$Roll" ({ cls := "DogVotes$Roll", name := "bury", desc := "(I)I" } : Jvm.MethodName) ({ cls := "DogVotes$Roll", name := "bury", desc := "(I)I" } : Jvm.MethodName)) ∈ tt := tt_2 214 rfl rfl
theorem mC_X9_bury : (Jvm.Cond.code ({ cls := "DogVotes$Roll", name := "bury", desc := "(I)I" } : Jvm.MethodName) prog_11_method_9_code (5 : Nat) (Option.some Jvm.ClassFile.FieldType.int)) ∈ tt := tt_2 215 rfl rfl
theorem mM_X9_41 : (Jvm.Cond.methodLink "DogVotes$Roll" (41 : Nat) ({ cls := "DogVotes$Roll", name := "livingHeirOf", desc := "(I)I" } : Jvm.MethodName)) ∈ tt := tt_2 216 rfl rfl
theorem mI_X9_livingHeirOf : (Jvm.Cond.instanceMethod ({ cls := "DogVotes$Roll", name := "livingHeirOf", desc := "(I)I" } : Jvm.MethodName)) ∈ tt := tt_2 218 rfl rfl
theorem mC_X9_livingHeirOf : (Jvm.Cond.code ({ cls := "DogVotes$Roll", name := "livingHeirOf", desc := "(I)I" } : Jvm.MethodName) prog_11_method_10_code (4 : Nat) (Option.some Jvm.ClassFile.FieldType.int)) ∈ tt := tt_2 219 rfl rfl
theorem mM_X9_51 : (Jvm.Cond.methodLink "DogVotes$Roll" (51 : Nat) ({ cls := "DogVotes$Roll", name := "has", desc := "(I)Z" } : Jvm.MethodName)) ∈ tt := tt_2 220 rfl rfl
theorem mM_X9_37 : (Jvm.Cond.methodLink "DogVotes$Roll" (37 : Nat) ({ cls := "DogVotes$Roll", name := "isDead", desc := "(I)Z" } : Jvm.MethodName)) ∈ tt := tt_2 221 rfl rfl
theorem mM_X9_45 : (Jvm.Cond.methodLink "DogVotes$Roll" (45 : Nat) ({ cls := "java/lang/Math", name := "min", desc := "(II)I" } : Jvm.MethodName)) ∈ tt := tt_2 222 rfl rfl
theorem mT_J9_min_7cf53 : (Jvm.Cond.static ({ cls := "java/lang/Math", name := "min", desc := "(II)I" } : Jvm.MethodName)) ∈ tt := tt_2 223 rfl rfl
theorem mC_J9_min_7cf53 : (Jvm.Cond.code ({ cls := "java/lang/Math", name := "min", desc := "(II)I" } : Jvm.MethodName) prog_16_method_69_code (2 : Nat) (Option.some Jvm.ClassFile.FieldType.int)) ∈ tt := tt_2 224 rfl rfl
theorem mM_L_44 : (Jvm.Cond.methodLink "DogVotesLaw" (44 : Nat) ({ cls := "DogVotes", name := "goes", desc := "(III)I" } : Jvm.MethodName)) ∈ tt := tt_2 225 rfl rfl
theorem mI_X11_goes : (Jvm.Cond.instanceMethod ({ cls := "DogVotes", name := "goes", desc := "(III)I" } : Jvm.MethodName)) ∈ tt := tt_2 226 rfl rfl
theorem mS_X11_goes : (Jvm.Cond.selects "DogVotes" ({ cls := "DogVotes", name := "goes", desc := "(III)I" } : Jvm.MethodName) ({ cls := "DogVotes", name := "goes", desc := "(III)I" } : Jvm.MethodName)) ∈ tt := tt_2 227 rfl rfl
theorem mC_X11_goes : (Jvm.Cond.code ({ cls := "DogVotes", name := "goes", desc := "(III)I" } : Jvm.MethodName) prog_1_method_9_code (4 : Nat) (Option.some Jvm.ClassFile.FieldType.int)) ∈ tt := tt_2 228 rfl rfl
theorem mM_X11_129 : (Jvm.Cond.methodLink "DogVotes" (129 : Nat) ({ cls := "DogVotes", name := "areLivers", desc := "(II)Z" } : Jvm.MethodName)) ∈ tt := tt_2 229 rfl rfl
theorem mT_X11_areLivers : (Jvm.Cond.static ({ cls := "DogVotes", name := "areLivers", desc := "(II)Z" } : Jvm.MethodName)) ∈ tt := tt_2 230 rfl rfl
theorem mC_X11_areLivers : (Jvm.Cond.code ({ cls := "DogVotes", name := "areLivers", desc := "(II)Z" } : Jvm.MethodName) prog_1_method_31_code (2 : Nat) (Option.some Jvm.ClassFile.FieldType.boolean)) ∈ tt := tt_2 231 rfl rfl
theorem mM_X11_140 : (Jvm.Cond.methodLink "DogVotes" (140 : Nat) ({ cls := "DogVotes", name := "isWithin", desc := "(II)Z" } : Jvm.MethodName)) ∈ tt := tt_2 232 rfl rfl
theorem mT_X11_isWithin : (Jvm.Cond.static ({ cls := "DogVotes", name := "isWithin", desc := "(II)Z" } : Jvm.MethodName)) ∈ tt := tt_2 233 rfl rfl
theorem mC_X11_isWithin : (Jvm.Cond.code ({ cls := "DogVotes", name := "isWithin", desc := "(II)Z" } : Jvm.MethodName) prog_1_method_30_code (2 : Nat) (Option.some Jvm.ClassFile.FieldType.boolean)) ∈ tt := tt_2 234 rfl rfl
theorem mM_X11_133 : (Jvm.Cond.methodLink "DogVotes" (133 : Nat) ({ cls := "DogVotes$Ballot", name := "hold", desc := "(LDogVotes$Roll;III)V" } : Jvm.MethodName)) ∈ tt := tt_2 235 rfl rfl
theorem mI_X0_hold : (Jvm.Cond.instanceMethod ({ cls := "DogVotes$Ballot", name := "hold", desc := "(LDogVotes$Roll;III)V" } : Jvm.MethodName)) ∈ tt := tt_2 236 rfl rfl
theorem mS_X0_hold : (Jvm.Cond.selects "DogVotes$Ballot" ({ cls := "DogVotes$Ballot", name := "hold", desc := "(LDogVotes$Roll;III)V" } : Jvm.MethodName) ({ cls := "DogVotes$Ballot", name := "hold", desc := "(LDogVotes$Roll;III)V" } : Jvm.MethodName)) ∈ tt := tt_2 237 rfl rfl
theorem mC_X0_hold : (Jvm.Cond.code ({ cls := "DogVotes$Ballot", name := "hold", desc := "(LDogVotes$Roll;III)V" } : Jvm.MethodName) prog_2_method_3_code (6 : Nat) (Option.none : Option Jvm.ClassFile.FieldType)) ∈ tt := tt_2 238 rfl rfl
theorem mM_X0_24 : (Jvm.Cond.methodLink "DogVotes$Ballot" (24 : Nat) ({ cls := "DogVotes$Ballot", name := "open", desc := "()V" } : Jvm.MethodName)) ∈ tt := tt_2 239 rfl rfl
theorem mI_X0_open : (Jvm.Cond.instanceMethod ({ cls := "DogVotes$Ballot", name := "open", desc := "()V" } : Jvm.MethodName)) ∈ tt := tt_3 0 rfl rfl
theorem mS_X0_open : (Jvm.Cond.selects "DogVotes$Ballot" ({ cls := "DogVotes$Ballot", name := "open", desc := "()V" } : Jvm.MethodName) ({ cls := "DogVotes$Ballot", name := "open", desc := "()V" } : Jvm.MethodName)) ∈ tt := tt_3 1 rfl rfl
theorem mC_X0_open : (Jvm.Cond.code ({ cls := "DogVotes$Ballot", name := "open", desc := "()V" } : Jvm.MethodName) prog_2_method_2_code (1 : Nat) (Option.none : Option Jvm.ClassFile.FieldType)) ∈ tt := tt_3 2 rfl rfl
theorem mM_X0_32 : (Jvm.Cond.methodLink "DogVotes$Ballot" (32 : Nat) ({ cls := "DogVotes$Ballot", name := "send", desc := "(LDogVotes$Roll;II)V" } : Jvm.MethodName)) ∈ tt := tt_3 3 rfl rfl
theorem mI_X0_send : (Jvm.Cond.instanceMethod ({ cls := "DogVotes$Ballot", name := "send", desc := "(LDogVotes$Roll;II)V" } : Jvm.MethodName)) ∈ tt := tt_3 4 rfl rfl
theorem mS_X0_send : (Jvm.Cond.selects "DogVotes$Ballot" ({ cls := "DogVotes$Ballot", name := "send", desc := "(LDogVotes$Roll;II)V" } : Jvm.MethodName) ({ cls := "DogVotes$Ballot", name := "send", desc := "(LDogVotes$Roll;II)V" } : Jvm.MethodName)) ∈ tt := tt_3 5 rfl rfl
theorem mC_X0_send : (Jvm.Cond.code ({ cls := "DogVotes$Ballot", name := "send", desc := "(LDogVotes$Roll;II)V" } : Jvm.MethodName) prog_2_method_4_code (8 : Nat) (Option.none : Option Jvm.ClassFile.FieldType)) ∈ tt := tt_3 6 rfl rfl
theorem mM_X0_36 : (Jvm.Cond.methodLink "DogVotes$Ballot" (36 : Nat) ({ cls := "DogVotes$Roll", name := "has", desc := "(I)Z" } : Jvm.MethodName)) ∈ tt := tt_3 7 rfl rfl
theorem mM_X0_40 : (Jvm.Cond.methodLink "DogVotes$Ballot" (40 : Nat) ({ cls := "DogVotes$Roll", name := "isDead", desc := "(I)Z" } : Jvm.MethodName)) ∈ tt := tt_3 8 rfl rfl
theorem mM_X11_137 : (Jvm.Cond.methodLink "DogVotes" (137 : Nat) ({ cls := "DogVotes$Ballot", name := "placeOf", desc := "(I)I" } : Jvm.MethodName)) ∈ tt := tt_3 9 rfl rfl
theorem mI_X0_placeOf : (Jvm.Cond.instanceMethod ({ cls := "DogVotes$Ballot", name := "placeOf", desc := "(I)I" } : Jvm.MethodName)) ∈ tt := tt_3 10 rfl rfl
theorem mS_X0_placeOf : (Jvm.Cond.selects "DogVotes$Ballot" ({ cls := "DogVotes$Ballot", name := "placeOf", desc := "(I)I" } : Jvm.MethodName) ({ cls := "DogVotes$Ballot", name := "placeOf", desc := "(I)I" } : Jvm.MethodName)) ∈ tt := tt_3 11 rfl rfl
theorem mC_X0_placeOf : (Jvm.Cond.code ({ cls := "DogVotes$Ballot", name := "placeOf", desc := "(I)I" } : Jvm.MethodName) prog_2_method_5_code (2 : Nat) (Option.some Jvm.ClassFile.FieldType.int)) ∈ tt := tt_3 12 rfl rfl
theorem mM_L_49 : (Jvm.Cond.methodLink "DogVotesLaw" (49 : Nat) ({ cls := "DogVotes", name := "vote", desc := "(III)I" } : Jvm.MethodName)) ∈ tt := tt_3 13 rfl rfl
theorem mI_X11_vote : (Jvm.Cond.instanceMethod ({ cls := "DogVotes", name := "vote", desc := "(III)I" } : Jvm.MethodName)) ∈ tt := tt_3 14 rfl rfl
theorem mS_X11_vote : (Jvm.Cond.selects "DogVotes" ({ cls := "DogVotes", name := "vote", desc := "(III)I" } : Jvm.MethodName) ({ cls := "DogVotes", name := "vote", desc := "(III)I" } : Jvm.MethodName)) ∈ tt := tt_3 15 rfl rfl
theorem mC_X11_vote : (Jvm.Cond.code ({ cls := "DogVotes", name := "vote", desc := "(III)I" } : Jvm.MethodName) prog_1_method_10_code (4 : Nat) (Option.some Jvm.ClassFile.FieldType.int)) ∈ tt := tt_3 16 rfl rfl
theorem mM_X11_149 : (Jvm.Cond.methodLink "DogVotes" (149 : Nat) ({ cls := "DogVotes$Ballot", name := "winner", desc := "()I" } : Jvm.MethodName)) ∈ tt := tt_3 17 rfl rfl
theorem mI_X0_winner : (Jvm.Cond.instanceMethod ({ cls := "DogVotes$Ballot", name := "winner", desc := "()I" } : Jvm.MethodName)) ∈ tt := tt_3 18 rfl rfl
theorem mS_X0_winner : (Jvm.Cond.selects "DogVotes$Ballot" ({ cls := "DogVotes$Ballot", name := "winner", desc := "()I" } : Jvm.MethodName) ({ cls := "DogVotes$Ballot", name := "winner", desc := "()I" } : Jvm.MethodName)) ∈ tt := tt_3 19 rfl rfl
theorem mC_X0_winner : (Jvm.Cond.code ({ cls := "DogVotes$Ballot", name := "winner", desc := "()I" } : Jvm.MethodName) prog_2_method_6_code (1 : Nat) (Option.some Jvm.ClassFile.FieldType.int)) ∈ tt := tt_3 20 rfl rfl
theorem mM_L_53 : (Jvm.Cond.methodLink "DogVotesLaw" (53 : Nat) ({ cls := "DogVotes", name := "stolen", desc := "(II)I" } : Jvm.MethodName)) ∈ tt := tt_3 21 rfl rfl
theorem mI_X11_stolen : (Jvm.Cond.instanceMethod ({ cls := "DogVotes", name := "stolen", desc := "(II)I" } : Jvm.MethodName)) ∈ tt := tt_3 22 rfl rfl
theorem mS_X11_stolen : (Jvm.Cond.selects "DogVotes" ({ cls := "DogVotes", name := "stolen", desc := "(II)I" } : Jvm.MethodName) ({ cls := "DogVotes", name := "stolen", desc := "(II)I" } : Jvm.MethodName)) ∈ tt := tt_3 23 rfl rfl
theorem mC_X11_stolen : (Jvm.Cond.code ({ cls := "DogVotes", name := "stolen", desc := "(II)I" } : Jvm.MethodName) prog_1_method_11_code (6 : Nat) (Option.some Jvm.ClassFile.FieldType.int)) ∈ tt := tt_3 24 rfl rfl
theorem mM_L_57 : (Jvm.Cond.methodLink "DogVotesLaw" (57 : Nat) ({ cls := "DogVotes", name := "won", desc := "(I)I" } : Jvm.MethodName)) ∈ tt := tt_3 25 rfl rfl
theorem mI_X11_won : (Jvm.Cond.instanceMethod ({ cls := "DogVotes", name := "won", desc := "(I)I" } : Jvm.MethodName)) ∈ tt := tt_3 26 rfl rfl
theorem mS_X11_won : (Jvm.Cond.selects "DogVotes" ({ cls := "DogVotes", name := "won", desc := "(I)I" } : Jvm.MethodName) ({ cls := "DogVotes", name := "won", desc := "(I)I" } : Jvm.MethodName)) ∈ tt := tt_3 27 rfl rfl
theorem mC_X11_won : (Jvm.Cond.code ({ cls := "DogVotes", name := "won", desc := "(I)I" } : Jvm.MethodName) prog_1_method_12_code (3 : Nat) (Option.some Jvm.ClassFile.FieldType.int)) ∈ tt := tt_3 28 rfl rfl
theorem mM_L_61 : (Jvm.Cond.methodLink "DogVotesLaw" (61 : Nat) ({ cls := "DogVotes", name := "rests", desc := "(I)I" } : Jvm.MethodName)) ∈ tt := tt_3 29 rfl rfl
theorem mI_X11_rests : (Jvm.Cond.instanceMethod ({ cls := "DogVotes", name := "rests", desc := "(I)I" } : Jvm.MethodName)) ∈ tt := tt_3 30 rfl rfl
theorem mS_X11_rests : (Jvm.Cond.selects "DogVotes" ({ cls := "DogVotes", name := "rests", desc := "(I)I" } : Jvm.MethodName) ({ cls := "DogVotes", name := "rests", desc := "(I)I" } : Jvm.MethodName)) ∈ tt := tt_3 31 rfl rfl
theorem mC_X11_rests : (Jvm.Cond.code ({ cls := "DogVotes", name := "rests", desc := "(I)I" } : Jvm.MethodName) prog_1_method_13_code (4 : Nat) (Option.some Jvm.ClassFile.FieldType.int)) ∈ tt := tt_3 32 rfl rfl
theorem mM_X11_152 : (Jvm.Cond.methodLink "DogVotes" (152 : Nat) ({ cls := "DogVotes$Bargain", name := "learn", desc := "(LDogVotes$Roll;)V" } : Jvm.MethodName)) ∈ tt := tt_3 33 rfl rfl
theorem mI_X1_learn : (Jvm.Cond.instanceMethod ({ cls := "DogVotes$Bargain", name := "learn", desc := "(LDogVotes$Roll;)V" } : Jvm.MethodName)) ∈ tt := tt_3 34 rfl rfl
theorem mS_X1_learn : (Jvm.Cond.selects "DogVotes$Bargain" ({ cls := "DogVotes$Bargain", name := "learn", desc := "(LDogVotes$Roll;)V" } : Jvm.MethodName) ({ cls := "DogVotes$Bargain", name := "learn", desc := "(LDogVotes$Roll;)V" } : Jvm.MethodName)) ∈ tt := tt_3 35 rfl rfl
theorem mC_X1_learn : (Jvm.Cond.code ({ cls := "DogVotes$Bargain", name := "learn", desc := "(LDogVotes$Roll;)V" } : Jvm.MethodName) prog_3_method_2_code (3 : Nat) (Option.none : Option Jvm.ClassFile.FieldType)) ∈ tt := tt_3 36 rfl rfl
theorem mM_X1_22 : (Jvm.Cond.methodLink "DogVotes$Bargain" (22 : Nat) ({ cls := "DogVotes$Ballot", name := "hold", desc := "(LDogVotes$Roll;III)V" } : Jvm.MethodName)) ∈ tt := tt_3 37 rfl rfl
theorem mM_X1_26 : (Jvm.Cond.methodLink "DogVotes$Bargain" (26 : Nat) ({ cls := "DogVotes$Ballot", name := "winner", desc := "()I" } : Jvm.MethodName)) ∈ tt := tt_3 38 rfl rfl
theorem mM_X11_155 : (Jvm.Cond.methodLink "DogVotes" (155 : Nat) ({ cls := "DogVotes$Bargain", name := "bothRest", desc := "(II)Z" } : Jvm.MethodName)) ∈ tt := tt_3 39 rfl rfl
theorem mI_X1_bothRest : (Jvm.Cond.instanceMethod ({ cls := "DogVotes$Bargain", name := "bothRest", desc := "(II)Z" } : Jvm.MethodName)) ∈ tt := tt_3 40 rfl rfl
theorem mS_X1_bothRest : (Jvm.Cond.selects "DogVotes$Bargain" ({ cls := "DogVotes$Bargain", name := "bothRest", desc := "(II)Z" } : Jvm.MethodName) ({ cls := "DogVotes$Bargain", name := "bothRest", desc := "(II)Z" } : Jvm.MethodName)) ∈ tt := tt_3 41 rfl rfl
theorem mC_X1_bothRest : (Jvm.Cond.code ({ cls := "DogVotes$Bargain", name := "bothRest", desc := "(II)Z" } : Jvm.MethodName) prog_3_method_3_code (6 : Nat) (Option.some Jvm.ClassFile.FieldType.boolean)) ∈ tt := tt_3 42 rfl rfl
theorem mM_X1_30 : (Jvm.Cond.methodLink "DogVotes$Bargain" (30 : Nat) ({ cls := "DogVotes$Bargain", name := "has", desc := "(III)I" } : Jvm.MethodName)) ∈ tt := tt_3 43 rfl rfl
theorem mI_X1_has : (Jvm.Cond.instanceMethod ({ cls := "DogVotes$Bargain", name := "has", desc := "(III)I" } : Jvm.MethodName)) ∈ tt := tt_3 45 rfl rfl
theorem mC_X1_has : (Jvm.Cond.code ({ cls := "DogVotes$Bargain", name := "has", desc := "(III)I" } : Jvm.MethodName) prog_3_method_4_code (7 : Nat) (Option.some Jvm.ClassFile.FieldType.int)) ∈ tt := tt_3 46 rfl rfl
theorem mM_L_65 : (Jvm.Cond.methodLink "DogVotesLaw" (65 : Nat) ({ cls := "DogVotes", name := "letOut", desc := "(III)I" } : Jvm.MethodName)) ∈ tt := tt_3 47 rfl rfl
theorem mI_X11_letOut : (Jvm.Cond.instanceMethod ({ cls := "DogVotes", name := "letOut", desc := "(III)I" } : Jvm.MethodName)) ∈ tt := tt_3 48 rfl rfl
theorem mS_X11_letOut : (Jvm.Cond.selects "DogVotes" ({ cls := "DogVotes", name := "letOut", desc := "(III)I" } : Jvm.MethodName) ({ cls := "DogVotes", name := "letOut", desc := "(III)I" } : Jvm.MethodName)) ∈ tt := tt_3 49 rfl rfl
theorem mC_X11_letOut : (Jvm.Cond.code ({ cls := "DogVotes", name := "letOut", desc := "(III)I" } : Jvm.MethodName) prog_1_method_14_code (4 : Nat) (Option.some Jvm.ClassFile.FieldType.int)) ∈ tt := tt_3 50 rfl rfl
theorem mM_X11_158 : (Jvm.Cond.methodLink "DogVotes" (158 : Nat) ({ cls := "DogVotes$Gate", name := "find", desc := "(LDogVotes$Roll;I)V" } : Jvm.MethodName)) ∈ tt := tt_3 51 rfl rfl
theorem mI_X4_find : (Jvm.Cond.instanceMethod ({ cls := "DogVotes$Gate", name := "find", desc := "(LDogVotes$Roll;I)V" } : Jvm.MethodName)) ∈ tt := tt_3 52 rfl rfl
theorem mS_X4_find : (Jvm.Cond.selects "DogVotes$Gate" ({ cls := "DogVotes$Gate", name := "find", desc := "(LDogVotes$Roll;I)V" } : Jvm.MethodName) ({ cls := "DogVotes$Gate", name := "find", desc := "(LDogVotes$Roll;I)V" } : Jvm.MethodName)) ∈ tt := tt_3 53 rfl rfl
theorem mC_X4_find : (Jvm.Cond.code ({ cls := "DogVotes$Gate", name := "find", desc := "(LDogVotes$Roll;I)V" } : Jvm.MethodName) prog_6_method_2_code (6 : Nat) (Option.none : Option Jvm.ClassFile.FieldType)) ∈ tt := tt_3 54 rfl rfl
theorem mM_X4_40 : (Jvm.Cond.methodLink "DogVotes$Gate" (40 : Nat) ({ cls := "DogVotes$Roll", name := "living", desc := "()I" } : Jvm.MethodName)) ∈ tt := tt_3 55 rfl rfl
theorem mI_X9_living : (Jvm.Cond.instanceMethod ({ cls := "DogVotes$Roll", name := "living", desc := "()I" } : Jvm.MethodName)) ∈ tt := tt_3 56 rfl rfl
theorem mS_X9_living : (Jvm.Cond.selects "DogVotes$Roll" ({ cls := "DogVotes$Roll", name := "living", desc := "()I" } : Jvm.MethodName) ({ cls := "DogVotes$Roll", name := "living", desc := "()I" } : Jvm.MethodName)) ∈ tt := tt_3 57 rfl rfl
theorem mC_X9_living : (Jvm.Cond.code ({ cls := "DogVotes$Roll", name := "living", desc := "()I" } : Jvm.MethodName) prog_11_method_7_code (3 : Nat) (Option.some Jvm.ClassFile.FieldType.int)) ∈ tt := tt_3 58 rfl rfl
theorem mM_X4_46 : (Jvm.Cond.methodLink "DogVotes$Gate" (46 : Nat) ({ cls := "DogVotes$Roll", name := "halvesOf", desc := "(I)I" } : Jvm.MethodName)) ∈ tt := tt_3 59 rfl rfl
theorem mI_X9_halvesOf : (Jvm.Cond.instanceMethod ({ cls := "DogVotes$Roll", name := "halvesOf", desc := "(I)I" } : Jvm.MethodName)) ∈ tt := tt_3 60 rfl rfl
theorem mS_X9_halvesOf : (Jvm.Cond.selects "DogVotes$Roll" ({ cls := "DogVotes$Roll", name := "halvesOf", desc := "(I)I" } : Jvm.MethodName) ({ cls := "DogVotes$Roll", name := "halvesOf", desc := "(I)I" } : Jvm.MethodName)) ∈ tt := tt_3 61 rfl rfl
theorem mC_X9_halvesOf : (Jvm.Cond.code ({ cls := "DogVotes$Roll", name := "halvesOf", desc := "(I)I" } : Jvm.MethodName) prog_11_method_8_code (4 : Nat) (Option.some Jvm.ClassFile.FieldType.int)) ∈ tt := tt_3 62 rfl rfl
theorem mM_X4_53 : (Jvm.Cond.methodLink "DogVotes$Gate" (53 : Nat) ({ cls := "DogVotes$Orders", name := "begin", desc := "(I)I" } : Jvm.MethodName)) ∈ tt := tt_3 63 rfl rfl
theorem mI_X6_begin : (Jvm.Cond.instanceMethod ({ cls := "DogVotes$Orders", name := "begin", desc := "(I)I" } : Jvm.MethodName)) ∈ tt := tt_3 64 rfl rfl
theorem mS_X6_begin : (Jvm.Cond.selects "DogVotes$Orders" ({ cls := "DogVotes$Orders", name := "begin", desc := "(I)I" } : Jvm.MethodName) ({ cls := "DogVotes$Orders", name := "begin", desc := "(I)I" } : Jvm.MethodName)) ∈ tt := tt_3 65 rfl rfl
theorem mC_X6_begin : (Jvm.Cond.code ({ cls := "DogVotes$Orders", name := "begin", desc := "(I)I" } : Jvm.MethodName) prog_8_method_2_code (3 : Nat) (Option.some Jvm.ClassFile.FieldType.int)) ∈ tt := tt_3 66 rfl rfl
theorem mM_X6_15 : (Jvm.Cond.methodLink "DogVotes$Orders" (15 : Nat) ({ cls := "java/lang/Math", name := "min", desc := "(II)I" } : Jvm.MethodName)) ∈ tt := tt_3 67 rfl rfl
theorem mM_X6_21 : (Jvm.Cond.methodLink "DogVotes$Orders" (21 : Nat) ({ cls := "java/lang/Math", name := "max", desc := "(II)I" } : Jvm.MethodName)) ∈ tt := tt_3 68 rfl rfl
theorem mT_X11_factorial : (Jvm.Cond.static ({ cls := "DogVotes", name := "factorial", desc := "(I)I" } : Jvm.MethodName)) ∈ tt := tt_3 70 rfl rfl
theorem mC_X11_factorial : (Jvm.Cond.code ({ cls := "DogVotes", name := "factorial", desc := "(I)I" } : Jvm.MethodName) prog_1_method_33_code (1 : Nat) (Option.some Jvm.ClassFile.FieldType.int)) ∈ tt := tt_3 71 rfl rfl
theorem mF_X11_243 : (Jvm.Cond.fieldLink "DogVotes" (243 : Nat) "DogVotes" "FACTORIALS" "[I") ∈ tt := tt_3 72 rfl rfl
theorem mM_X4_56 : (Jvm.Cond.methodLink "DogVotes$Gate" (56 : Nat) ({ cls := "DogVotes$Gate", name := "keepIfMore", desc := "(LDogVotes$Roll;I)V" } : Jvm.MethodName)) ∈ tt := tt_3 74 rfl rfl
theorem mI_X4_keepIfMore : (Jvm.Cond.instanceMethod ({ cls := "DogVotes$Gate", name := "keepIfMore", desc := "(LDogVotes$Roll;I)V" } : Jvm.MethodName)) ∈ tt := tt_3 76 rfl rfl
theorem mC_X4_keepIfMore : (Jvm.Cond.code ({ cls := "DogVotes$Gate", name := "keepIfMore", desc := "(LDogVotes$Roll;I)V" } : Jvm.MethodName) prog_6_method_3_code (4 : Nat) (Option.none : Option Jvm.ClassFile.FieldType)) ∈ tt := tt_3 77 rfl rfl
theorem mM_X4_63 : (Jvm.Cond.methodLink "DogVotes$Gate" (63 : Nat) ({ cls := "DogVotes$Ballot", name := "open", desc := "()V" } : Jvm.MethodName)) ∈ tt := tt_3 78 rfl rfl
theorem mM_X4_70 : (Jvm.Cond.methodLink "DogVotes$Gate" (70 : Nat) ({ cls := "DogVotes$Ballot", name := "send", desc := "(LDogVotes$Roll;II)V" } : Jvm.MethodName)) ∈ tt := tt_3 79 rfl rfl
theorem mM_X4_77 : (Jvm.Cond.methodLink "DogVotes$Gate" (77 : Nat) ({ cls := "java/lang/System", name := "arraycopy", desc := "(Ljava/lang/Object;ILjava/lang/Object;II)V" } : Jvm.MethodName)) ∈ tt := tt_3 80 rfl rfl
theorem mM_X4_60 : (Jvm.Cond.methodLink "DogVotes$Gate" (60 : Nat) ({ cls := "DogVotes$Orders", name := "advance", desc := "()V" } : Jvm.MethodName)) ∈ tt := tt_3 81 rfl rfl
theorem mI_X6_advance : (Jvm.Cond.instanceMethod ({ cls := "DogVotes$Orders", name := "advance", desc := "()V" } : Jvm.MethodName)) ∈ tt := tt_3 82 rfl rfl
theorem mS_X6_advance : (Jvm.Cond.selects "DogVotes$Orders" ({ cls := "DogVotes$Orders", name := "advance", desc := "()V" } : Jvm.MethodName) ({ cls := "DogVotes$Orders", name := "advance", desc := "()V" } : Jvm.MethodName)) ∈ tt := tt_3 83 rfl rfl
theorem mC_X6_advance : (Jvm.Cond.code ({ cls := "DogVotes$Orders", name := "advance", desc := "()V" } : Jvm.MethodName) prog_8_method_3_code (5 : Nat) (Option.none : Option Jvm.ClassFile.FieldType)) ∈ tt := tt_3 84 rfl rfl
theorem mM_X6_32 : (Jvm.Cond.methodLink "DogVotes$Orders" (32 : Nat) ({ cls := "DogVotes$Orders", name := "swap", desc := "(II)V" } : Jvm.MethodName)) ∈ tt := tt_3 85 rfl rfl
theorem mI_X6_swap : (Jvm.Cond.instanceMethod ({ cls := "DogVotes$Orders", name := "swap", desc := "(II)V" } : Jvm.MethodName)) ∈ tt := tt_3 87 rfl rfl
theorem mC_X6_swap : (Jvm.Cond.code ({ cls := "DogVotes$Orders", name := "swap", desc := "(II)V" } : Jvm.MethodName) prog_8_method_4_code (4 : Nat) (Option.none : Option Jvm.ClassFile.FieldType)) ∈ tt := tt_3 88 rfl rfl
theorem mM_L_69 : (Jvm.Cond.methodLink "DogVotesLaw" (69 : Nat) ({ cls := "DogVotes", name := "swings", desc := "(I)I" } : Jvm.MethodName)) ∈ tt := tt_3 89 rfl rfl
theorem mI_X11_swings : (Jvm.Cond.instanceMethod ({ cls := "DogVotes", name := "swings", desc := "(I)I" } : Jvm.MethodName)) ∈ tt := tt_3 90 rfl rfl
theorem mS_X11_swings : (Jvm.Cond.selects "DogVotes" ({ cls := "DogVotes", name := "swings", desc := "(I)I" } : Jvm.MethodName) ({ cls := "DogVotes", name := "swings", desc := "(I)I" } : Jvm.MethodName)) ∈ tt := tt_3 91 rfl rfl
theorem mC_X11_swings : (Jvm.Cond.code ({ cls := "DogVotes", name := "swings", desc := "(I)I" } : Jvm.MethodName) prog_1_method_15_code (2 : Nat) (Option.some Jvm.ClassFile.FieldType.int)) ∈ tt := tt_3 92 rfl rfl
theorem mM_X11_168 : (Jvm.Cond.methodLink "DogVotes" (168 : Nat) ({ cls := "DogVotes$Deciders", name := "decisions", desc := "(LDogVotes$Roll;IZ)I" } : Jvm.MethodName)) ∈ tt := tt_3 93 rfl rfl
theorem mT_X2_decisions : (Jvm.Cond.static ({ cls := "DogVotes$Deciders", name := "decisions", desc := "(LDogVotes$Roll;IZ)I" } : Jvm.MethodName)) ∈ tt := tt_3 94 rfl rfl
theorem mC_X2_decisions : (Jvm.Cond.code ({ cls := "DogVotes$Deciders", name := "decisions", desc := "(LDogVotes$Roll;IZ)I" } : Jvm.MethodName) prog_4_method_2_code (7 : Nat) (Option.some Jvm.ClassFile.FieldType.int)) ∈ tt := tt_3 95 rfl rfl
theorem mM_X2_7 : (Jvm.Cond.methodLink "DogVotes$Deciders" (7 : Nat) ({ cls := "DogVotes$Roll", name := "living", desc := "()I" } : Jvm.MethodName)) ∈ tt := tt_3 96 rfl rfl
theorem mM_X2_13 : (Jvm.Cond.methodLink "DogVotes$Deciders" (13 : Nat) ({ cls := "DogVotes$Roll", name := "halvesOf", desc := "(I)I" } : Jvm.MethodName)) ∈ tt := tt_3 97 rfl rfl
theorem mM_X2_25 : (Jvm.Cond.methodLink "DogVotes$Deciders" (25 : Nat) ({ cls := "DogVotes$Deciders", name := "decides", desc := "(III)Z" } : Jvm.MethodName)) ∈ tt := tt_3 98 rfl rfl
theorem mT_X2_decides : (Jvm.Cond.static ({ cls := "DogVotes$Deciders", name := "decides", desc := "(III)Z" } : Jvm.MethodName)) ∈ tt := tt_3 99 rfl rfl
theorem mC_X2_decides : (Jvm.Cond.code ({ cls := "DogVotes$Deciders", name := "decides", desc := "(III)Z" } : Jvm.MethodName) prog_4_method_3_code (3 : Nat) (Option.some Jvm.ClassFile.FieldType.boolean)) ∈ tt := tt_3 100 rfl rfl
theorem mM_X2_31 : (Jvm.Cond.methodLink "DogVotes$Deciders" (31 : Nat) ({ cls := "DogVotes$Deciders", name := "ordersAround", desc := "(II)I" } : Jvm.MethodName)) ∈ tt := tt_3 101 rfl rfl
theorem mT_X2_ordersAround : (Jvm.Cond.static ({ cls := "DogVotes$Deciders", name := "ordersAround", desc := "(II)I" } : Jvm.MethodName)) ∈ tt := tt_3 102 rfl rfl
theorem mC_X2_ordersAround : (Jvm.Cond.code ({ cls := "DogVotes$Deciders", name := "ordersAround", desc := "(II)I" } : Jvm.MethodName) prog_4_method_4_code (2 : Nat) (Option.some Jvm.ClassFile.FieldType.int)) ∈ tt := tt_3 103 rfl rfl
theorem mM_X2_35 : (Jvm.Cond.methodLink "DogVotes$Deciders" (35 : Nat) ({ cls := "java/lang/Integer", name := "bitCount", desc := "(I)I" } : Jvm.MethodName)) ∈ tt := tt_3 104 rfl rfl
theorem mM_L_73 : (Jvm.Cond.methodLink "DogVotesLaw" (73 : Nat) ({ cls := "DogVotes", name := "turn", desc := "(II)J" } : Jvm.MethodName)) ∈ tt := tt_3 106 rfl rfl
theorem mI_X11_turn : (Jvm.Cond.instanceMethod ({ cls := "DogVotes", name := "turn", desc := "(II)J" } : Jvm.MethodName)) ∈ tt := tt_3 107 rfl rfl
theorem mS_X11_turn : (Jvm.Cond.selects "DogVotes" ({ cls := "DogVotes", name := "turn", desc := "(II)J" } : Jvm.MethodName) ({ cls := "DogVotes", name := "turn", desc := "(II)J" } : Jvm.MethodName)) ∈ tt := tt_3 108 rfl rfl
theorem mC_X11_turn : (Jvm.Cond.code ({ cls := "DogVotes", name := "turn", desc := "(II)J" } : Jvm.MethodName) prog_1_method_16_code (6 : Nat) (Option.some Jvm.ClassFile.FieldType.long)) ∈ tt := tt_3 109 rfl rfl
theorem mD_X11_174 : (Jvm.Cond.constantLong "DogVotes" (174 : Nat) (-1000000000000000001 : Int64)) ∈ tt := tt_3 110 rfl rfl
theorem mD_X11_176 : (Jvm.Cond.constantLong "DogVotes" (176 : Nat) (-1000000000000000002 : Int64)) ∈ tt := tt_3 111 rfl rfl
theorem mM_X11_178 : (Jvm.Cond.methodLink "DogVotes" (178 : Nat) ({ cls := "DogVotes$Roll", name := "living", desc := "()I" } : Jvm.MethodName)) ∈ tt := tt_3 112 rfl rfl
theorem mM_X11_181 : (Jvm.Cond.methodLink "DogVotes" (181 : Nat) ({ cls := "java/lang/Integer", name := "bitCount", desc := "(I)I" } : Jvm.MethodName)) ∈ tt := tt_3 113 rfl rfl
theorem mM_X11_186 : (Jvm.Cond.methodLink "DogVotes" (186 : Nat) ({ cls := "DogVotes", name := "factorial", desc := "(I)I" } : Jvm.MethodName)) ∈ tt := tt_3 114 rfl rfl
theorem mM_X11_189 : (Jvm.Cond.methodLink "DogVotes" (189 : Nat) ({ cls := "DogVotes$Deciders", name := "commonDivisor", desc := "(II)I" } : Jvm.MethodName)) ∈ tt := tt_3 115 rfl rfl
theorem mT_X2_commonDivisor : (Jvm.Cond.static ({ cls := "DogVotes$Deciders", name := "commonDivisor", desc := "(II)I" } : Jvm.MethodName)) ∈ tt := tt_3 116 rfl rfl
theorem mC_X2_commonDivisor : (Jvm.Cond.code ({ cls := "DogVotes$Deciders", name := "commonDivisor", desc := "(II)I" } : Jvm.MethodName) prog_4_method_5_code (4 : Nat) (Option.some Jvm.ClassFile.FieldType.int)) ∈ tt := tt_3 117 rfl rfl
theorem mM_X11_193 : (Jvm.Cond.methodLink "DogVotes" (193 : Nat) ({ cls := "java/lang/Math", name := "max", desc := "(II)I" } : Jvm.MethodName)) ∈ tt := tt_3 118 rfl rfl
theorem mM_L_78 : (Jvm.Cond.methodLink "DogVotesLaw" (78 : Nat) ({ cls := "DogVotes", name := "counted", desc := "(III)I" } : Jvm.MethodName)) ∈ tt := tt_3 119 rfl rfl
theorem mI_X11_counted : (Jvm.Cond.instanceMethod ({ cls := "DogVotes", name := "counted", desc := "(III)I" } : Jvm.MethodName)) ∈ tt := tt_3 120 rfl rfl
theorem mS_X11_counted : (Jvm.Cond.selects "DogVotes" ({ cls := "DogVotes", name := "counted", desc := "(III)I" } : Jvm.MethodName) ({ cls := "DogVotes", name := "counted", desc := "(III)I" } : Jvm.MethodName)) ∈ tt := tt_3 121 rfl rfl
theorem mC_X11_counted : (Jvm.Cond.code ({ cls := "DogVotes", name := "counted", desc := "(III)I" } : Jvm.MethodName) prog_1_method_17_code (4 : Nat) (Option.some Jvm.ClassFile.FieldType.int)) ∈ tt := tt_3 122 rfl rfl
theorem mM_X11_198 : (Jvm.Cond.methodLink "DogVotes" (198 : Nat) ({ cls := "DogVotes$Rows", name := "add", desc := "(III)Z" } : Jvm.MethodName)) ∈ tt := tt_3 123 rfl rfl
theorem mI_X10_add : (Jvm.Cond.instanceMethod ({ cls := "DogVotes$Rows", name := "add", desc := "(III)Z" } : Jvm.MethodName)) ∈ tt := tt_3 124 rfl rfl
theorem mS_X10_add : (Jvm.Cond.selects "DogVotes$Rows" ({ cls := "DogVotes$Rows", name := "add", desc := "(III)Z" } : Jvm.MethodName) ({ cls := "DogVotes$Rows", name := "add", desc := "(III)Z" } : Jvm.MethodName)) ∈ tt := tt_3 125 rfl rfl
theorem mC_X10_add : (Jvm.Cond.code ({ cls := "DogVotes$Rows", name := "add", desc := "(III)Z" } : Jvm.MethodName) prog_12_method_2_code (4 : Nat) (Option.some Jvm.ClassFile.FieldType.boolean)) ∈ tt := tt_3 126 rfl rfl
theorem mM_L_82 : (Jvm.Cond.methodLink "DogVotesLaw" (82 : Nat) ({ cls := "DogVotes", name := "forget", desc := "()I" } : Jvm.MethodName)) ∈ tt := tt_3 127 rfl rfl
theorem mI_X11_forget : (Jvm.Cond.instanceMethod ({ cls := "DogVotes", name := "forget", desc := "()I" } : Jvm.MethodName)) ∈ tt := tt_3 128 rfl rfl
theorem mS_X11_forget : (Jvm.Cond.selects "DogVotes" ({ cls := "DogVotes", name := "forget", desc := "()I" } : Jvm.MethodName) ({ cls := "DogVotes", name := "forget", desc := "()I" } : Jvm.MethodName)) ∈ tt := tt_3 129 rfl rfl
theorem mC_X11_forget : (Jvm.Cond.code ({ cls := "DogVotes", name := "forget", desc := "()I" } : Jvm.MethodName) prog_1_method_18_code (2 : Nat) (Option.some Jvm.ClassFile.FieldType.int)) ∈ tt := tt_3 130 rfl rfl
theorem mM_L_86 : (Jvm.Cond.methodLink "DogVotesLaw" (86 : Nat) ({ cls := "DogVotes", name := "fits", desc := "(I)I" } : Jvm.MethodName)) ∈ tt := tt_3 131 rfl rfl
theorem mI_X11_fits : (Jvm.Cond.instanceMethod ({ cls := "DogVotes", name := "fits", desc := "(I)I" } : Jvm.MethodName)) ∈ tt := tt_3 132 rfl rfl
theorem mS_X11_fits : (Jvm.Cond.selects "DogVotes" ({ cls := "DogVotes", name := "fits", desc := "(I)I" } : Jvm.MethodName) ({ cls := "DogVotes", name := "fits", desc := "(I)I" } : Jvm.MethodName)) ∈ tt := tt_3 133 rfl rfl
theorem mC_X11_fits : (Jvm.Cond.code ({ cls := "DogVotes", name := "fits", desc := "(I)I" } : Jvm.MethodName) prog_1_method_19_code (2 : Nat) (Option.some Jvm.ClassFile.FieldType.int)) ∈ tt := tt_3 134 rfl rfl
theorem mM_X11_201 : (Jvm.Cond.methodLink "DogVotes" (201 : Nat) ({ cls := "DogVotes$Guesses", name := "find", desc := "(LDogVotes$Roll;LDogVotes$Rows;)V" } : Jvm.MethodName)) ∈ tt := tt_3 135 rfl rfl
theorem mI_X5_find : (Jvm.Cond.instanceMethod ({ cls := "DogVotes$Guesses", name := "find", desc := "(LDogVotes$Roll;LDogVotes$Rows;)V" } : Jvm.MethodName)) ∈ tt := tt_3 136 rfl rfl
theorem mS_X5_find : (Jvm.Cond.selects "DogVotes$Guesses" ({ cls := "DogVotes$Guesses", name := "find", desc := "(LDogVotes$Roll;LDogVotes$Rows;)V" } : Jvm.MethodName) ({ cls := "DogVotes$Guesses", name := "find", desc := "(LDogVotes$Roll;LDogVotes$Rows;)V" } : Jvm.MethodName)) ∈ tt := tt_3 137 rfl rfl
theorem mC_X5_find : (Jvm.Cond.code ({ cls := "DogVotes$Guesses", name := "find", desc := "(LDogVotes$Roll;LDogVotes$Rows;)V" } : Jvm.MethodName) prog_7_method_2_code (5 : Nat) (Option.none : Option Jvm.ClassFile.FieldType)) ∈ tt := tt_3 138 rfl rfl
theorem mM_X5_42 : (Jvm.Cond.methodLink "DogVotes$Guesses" (42 : Nat) ({ cls := "DogVotes$Roll", name := "copyFrom", desc := "(LDogVotes$Roll;)V" } : Jvm.MethodName)) ∈ tt := tt_3 139 rfl rfl
theorem mM_X5_50 : (Jvm.Cond.methodLink "DogVotes$Guesses" (50 : Nat) ({ cls := "DogVotes$Guesses", name := "listUntold", desc := "()I" } : Jvm.MethodName)) ∈ tt := tt_3 140 rfl rfl
theorem mI_X5_listUntold : (Jvm.Cond.instanceMethod ({ cls := "DogVotes$Guesses", name := "listUntold", desc := "()I" } : Jvm.MethodName)) ∈ tt := tt_3 142 rfl rfl
theorem mC_X5_listUntold : (Jvm.Cond.code ({ cls := "DogVotes$Guesses", name := "listUntold", desc := "()I" } : Jvm.MethodName) prog_7_method_3_code (3 : Nat) (Option.some Jvm.ClassFile.FieldType.int)) ∈ tt := tt_3 143 rfl rfl
theorem mM_X5_71 : (Jvm.Cond.methodLink "DogVotes$Guesses" (71 : Nat) ({ cls := "DogVotes$Roll", name := "isTold", desc := "(I)Z" } : Jvm.MethodName)) ∈ tt := tt_3 144 rfl rfl
theorem mM_X5_54 : (Jvm.Cond.methodLink "DogVotes$Guesses" (54 : Nat) ({ cls := "DogVotes$Guesses", name := "write", desc := "(I)V" } : Jvm.MethodName)) ∈ tt := tt_3 145 rfl rfl
theorem mI_X5_write : (Jvm.Cond.instanceMethod ({ cls := "DogVotes$Guesses", name := "write", desc := "(I)V" } : Jvm.MethodName)) ∈ tt := tt_3 147 rfl rfl
theorem mC_X5_write : (Jvm.Cond.code ({ cls := "DogVotes$Guesses", name := "write", desc := "(I)V" } : Jvm.MethodName) prog_7_method_4_code (4 : Nat) (Option.none : Option Jvm.ClassFile.FieldType)) ∈ tt := tt_3 148 rfl rfl
theorem mM_X5_58 : (Jvm.Cond.methodLink "DogVotes$Guesses" (58 : Nat) ({ cls := "DogVotes$Guesses", name := "holds", desc := "(LDogVotes$Rows;)Z" } : Jvm.MethodName)) ∈ tt := tt_3 149 rfl rfl
theorem mI_X5_holds : (Jvm.Cond.instanceMethod ({ cls := "DogVotes$Guesses", name := "holds", desc := "(LDogVotes$Rows;)Z" } : Jvm.MethodName)) ∈ tt := tt_3 151 rfl rfl
theorem mC_X5_holds : (Jvm.Cond.code ({ cls := "DogVotes$Guesses", name := "holds", desc := "(LDogVotes$Rows;)Z" } : Jvm.MethodName) prog_7_method_5_code (3 : Nat) (Option.some Jvm.ClassFile.FieldType.boolean)) ∈ tt := tt_3 152 rfl rfl
theorem mM_X5_87 : (Jvm.Cond.methodLink "DogVotes$Guesses" (87 : Nat) ({ cls := "DogVotes$Ballot", name := "hold", desc := "(LDogVotes$Roll;III)V" } : Jvm.MethodName)) ∈ tt := tt_3 153 rfl rfl
theorem mM_X5_62 : (Jvm.Cond.methodLink "DogVotes$Guesses" (62 : Nat) ({ cls := "DogVotes$Guesses", name := "note", desc := "()V" } : Jvm.MethodName)) ∈ tt := tt_3 154 rfl rfl
theorem mI_X5_note : (Jvm.Cond.instanceMethod ({ cls := "DogVotes$Guesses", name := "note", desc := "()V" } : Jvm.MethodName)) ∈ tt := tt_3 156 rfl rfl
theorem mC_X5_note : (Jvm.Cond.code ({ cls := "DogVotes$Guesses", name := "note", desc := "()V" } : Jvm.MethodName) prog_7_method_6_code (4 : Nat) (Option.none : Option Jvm.ClassFile.FieldType)) ∈ tt := tt_3 157 rfl rfl
theorem mM_X5_97 : (Jvm.Cond.methodLink "DogVotes$Guesses" (97 : Nat) ({ cls := "java/lang/Math", name := "min", desc := "(II)I" } : Jvm.MethodName)) ∈ tt := tt_3 158 rfl rfl
theorem mM_X5_103 : (Jvm.Cond.methodLink "DogVotes$Guesses" (103 : Nat) ({ cls := "java/lang/Math", name := "max", desc := "(II)I" } : Jvm.MethodName)) ∈ tt := tt_3 159 rfl rfl
theorem mM_L_90 : (Jvm.Cond.methodLink "DogVotesLaw" (90 : Nat) ({ cls := "DogVotes", name := "liking", desc := "(II)I" } : Jvm.MethodName)) ∈ tt := tt_3 160 rfl rfl
theorem mI_X11_liking : (Jvm.Cond.instanceMethod ({ cls := "DogVotes", name := "liking", desc := "(II)I" } : Jvm.MethodName)) ∈ tt := tt_3 161 rfl rfl
theorem mS_X11_liking : (Jvm.Cond.selects "DogVotes" ({ cls := "DogVotes", name := "liking", desc := "(II)I" } : Jvm.MethodName) ({ cls := "DogVotes", name := "liking", desc := "(II)I" } : Jvm.MethodName)) ∈ tt := tt_3 162 rfl rfl
theorem mC_X11_liking : (Jvm.Cond.code ({ cls := "DogVotes", name := "liking", desc := "(II)I" } : Jvm.MethodName) prog_1_method_20_code (3 : Nat) (Option.some Jvm.ClassFile.FieldType.int)) ∈ tt := tt_3 163 rfl rfl
theorem mM_L_94 : (Jvm.Cond.methodLink "DogVotesLaw" (94 : Nat) ({ cls := "DogVotes", name := "ask", desc := "(III)I" } : Jvm.MethodName)) ∈ tt := tt_3 164 rfl rfl
theorem mI_X11_ask : (Jvm.Cond.instanceMethod ({ cls := "DogVotes", name := "ask", desc := "(III)I" } : Jvm.MethodName)) ∈ tt := tt_3 165 rfl rfl
theorem mS_X11_ask : (Jvm.Cond.selects "DogVotes" ({ cls := "DogVotes", name := "ask", desc := "(III)I" } : Jvm.MethodName) ({ cls := "DogVotes", name := "ask", desc := "(III)I" } : Jvm.MethodName)) ∈ tt := tt_3 166 rfl rfl
theorem mC_X11_ask : (Jvm.Cond.code ({ cls := "DogVotes", name := "ask", desc := "(III)I" } : Jvm.MethodName) prog_1_method_21_code (4 : Nat) (Option.some Jvm.ClassFile.FieldType.int)) ∈ tt := tt_3 167 rfl rfl
theorem mM_L_98 : (Jvm.Cond.methodLink "DogVotesLaw" (98 : Nat) ({ cls := "DogVotes", name := "drop", desc := "()I" } : Jvm.MethodName)) ∈ tt := tt_3 168 rfl rfl
theorem mI_X11_drop : (Jvm.Cond.instanceMethod ({ cls := "DogVotes", name := "drop", desc := "()I" } : Jvm.MethodName)) ∈ tt := tt_3 169 rfl rfl
theorem mS_X11_drop : (Jvm.Cond.selects "DogVotes" ({ cls := "DogVotes", name := "drop", desc := "()I" } : Jvm.MethodName) ({ cls := "DogVotes", name := "drop", desc := "()I" } : Jvm.MethodName)) ∈ tt := tt_3 170 rfl rfl
theorem mC_X11_drop : (Jvm.Cond.code ({ cls := "DogVotes", name := "drop", desc := "()I" } : Jvm.MethodName) prog_1_method_22_code (2 : Nat) (Option.some Jvm.ClassFile.FieldType.int)) ∈ tt := tt_3 171 rfl rfl
theorem mM_L_102 : (Jvm.Cond.methodLink "DogVotesLaw" (102 : Nat) ({ cls := "DogVotes", name := "hunger", desc := "(I)I" } : Jvm.MethodName)) ∈ tt := tt_3 172 rfl rfl
theorem mI_X11_hunger : (Jvm.Cond.instanceMethod ({ cls := "DogVotes", name := "hunger", desc := "(I)I" } : Jvm.MethodName)) ∈ tt := tt_3 173 rfl rfl
theorem mS_X11_hunger : (Jvm.Cond.selects "DogVotes" ({ cls := "DogVotes", name := "hunger", desc := "(I)I" } : Jvm.MethodName) ({ cls := "DogVotes", name := "hunger", desc := "(I)I" } : Jvm.MethodName)) ∈ tt := tt_3 174 rfl rfl
theorem mC_X11_hunger : (Jvm.Cond.code ({ cls := "DogVotes", name := "hunger", desc := "(I)I" } : Jvm.MethodName) prog_1_method_23_code (3 : Nat) (Option.some Jvm.ClassFile.FieldType.int)) ∈ tt := tt_3 175 rfl rfl
theorem mM_L_106 : (Jvm.Cond.methodLink "DogVotesLaw" (106 : Nat) ({ cls := "DogVotes", name := "best", desc := "(I)I" } : Jvm.MethodName)) ∈ tt := tt_3 176 rfl rfl
theorem mI_X11_best : (Jvm.Cond.instanceMethod ({ cls := "DogVotes", name := "best", desc := "(I)I" } : Jvm.MethodName)) ∈ tt := tt_3 177 rfl rfl
theorem mS_X11_best : (Jvm.Cond.selects "DogVotes" ({ cls := "DogVotes", name := "best", desc := "(I)I" } : Jvm.MethodName) ({ cls := "DogVotes", name := "best", desc := "(I)I" } : Jvm.MethodName)) ∈ tt := tt_3 178 rfl rfl
theorem mC_X11_best : (Jvm.Cond.code ({ cls := "DogVotes", name := "best", desc := "(I)I" } : Jvm.MethodName) prog_1_method_24_code (2 : Nat) (Option.some Jvm.ClassFile.FieldType.int)) ∈ tt := tt_3 179 rfl rfl
theorem mM_X11_223 : (Jvm.Cond.methodLink "DogVotes" (223 : Nat) ({ cls := "DogVotes$Evenings", name := "find", desc := "(LDogVotes$Parish;)V" } : Jvm.MethodName)) ∈ tt := tt_3 180 rfl rfl
theorem mI_X3_find : (Jvm.Cond.instanceMethod ({ cls := "DogVotes$Evenings", name := "find", desc := "(LDogVotes$Parish;)V" } : Jvm.MethodName)) ∈ tt := tt_3 181 rfl rfl
theorem mS_X3_find : (Jvm.Cond.selects "DogVotes$Evenings" ({ cls := "DogVotes$Evenings", name := "find", desc := "(LDogVotes$Parish;)V" } : Jvm.MethodName) ({ cls := "DogVotes$Evenings", name := "find", desc := "(LDogVotes$Parish;)V" } : Jvm.MethodName)) ∈ tt := tt_3 182 rfl rfl
theorem mC_X3_find : (Jvm.Cond.code ({ cls := "DogVotes$Evenings", name := "find", desc := "(LDogVotes$Parish;)V" } : Jvm.MethodName) prog_5_method_2_code (5 : Nat) (Option.none : Option Jvm.ClassFile.FieldType)) ∈ tt := tt_3 183 rfl rfl
theorem mM_X3_51 : (Jvm.Cond.methodLink "DogVotes$Evenings" (51 : Nat) ({ cls := "DogVotes$Orders", name := "begin", desc := "(I)I" } : Jvm.MethodName)) ∈ tt := tt_3 184 rfl rfl
theorem mM_X3_55 : (Jvm.Cond.methodLink "DogVotes$Evenings" (55 : Nat) ({ cls := "DogVotes$Evenings", name := "worthsOf", desc := "(LDogVotes$Parish;)I" } : Jvm.MethodName)) ∈ tt := tt_3 185 rfl rfl
theorem mI_X3_worthsOf : (Jvm.Cond.instanceMethod ({ cls := "DogVotes$Evenings", name := "worthsOf", desc := "(LDogVotes$Parish;)I" } : Jvm.MethodName)) ∈ tt := tt_3 187 rfl rfl
theorem mC_X3_worthsOf : (Jvm.Cond.code ({ cls := "DogVotes$Evenings", name := "worthsOf", desc := "(LDogVotes$Parish;)I" } : Jvm.MethodName) prog_5_method_3_code (8 : Nat) (Option.some Jvm.ClassFile.FieldType.int)) ∈ tt := tt_3 188 rfl rfl
theorem mM_X3_69 : (Jvm.Cond.methodLink "DogVotes$Evenings" (69 : Nat) ({ cls := "DogVotes$Evenings", name := "beHungry", desc := "()V" } : Jvm.MethodName)) ∈ tt := tt_3 189 rfl rfl
theorem mI_X3_beHungry : (Jvm.Cond.instanceMethod ({ cls := "DogVotes$Evenings", name := "beHungry", desc := "()V" } : Jvm.MethodName)) ∈ tt := tt_3 191 rfl rfl
theorem mC_X3_beHungry : (Jvm.Cond.code ({ cls := "DogVotes$Evenings", name := "beHungry", desc := "()V" } : Jvm.MethodName) prog_5_method_4_code (2 : Nat) (Option.none : Option Jvm.ClassFile.FieldType)) ∈ tt := tt_3 192 rfl rfl
theorem mM_X3_86 : (Jvm.Cond.methodLink "DogVotes$Evenings" (86 : Nat) ({ cls := "DogVotes$Ballot", name := "hold", desc := "(LDogVotes$Roll;III)V" } : Jvm.MethodName)) ∈ tt := tt_3 193 rfl rfl
theorem mM_X3_90 : (Jvm.Cond.methodLink "DogVotes$Evenings" (90 : Nat) ({ cls := "DogVotes$Ballot", name := "winner", desc := "()I" } : Jvm.MethodName)) ∈ tt := tt_3 194 rfl rfl
theorem mM_X3_106 : (Jvm.Cond.methodLink "DogVotes$Evenings" (106 : Nat) ({ cls := "DogVotes$Evenings", name := "feed", desc := "(II)V" } : Jvm.MethodName)) ∈ tt := tt_3 195 rfl rfl
theorem mI_X3_feed : (Jvm.Cond.instanceMethod ({ cls := "DogVotes$Evenings", name := "feed", desc := "(II)V" } : Jvm.MethodName)) ∈ tt := tt_3 197 rfl rfl
theorem mC_X3_feed : (Jvm.Cond.code ({ cls := "DogVotes$Evenings", name := "feed", desc := "(II)V" } : Jvm.MethodName) prog_5_method_5_code (4 : Nat) (Option.none : Option Jvm.ClassFile.FieldType)) ∈ tt := tt_3 198 rfl rfl
theorem mM_X3_60 : (Jvm.Cond.methodLink "DogVotes$Evenings" (60 : Nat) ({ cls := "java/lang/System", name := "arraycopy", desc := "(Ljava/lang/Object;ILjava/lang/Object;II)V" } : Jvm.MethodName)) ∈ tt := tt_3 199 rfl rfl
theorem mM_X3_66 : (Jvm.Cond.methodLink "DogVotes$Evenings" (66 : Nat) ({ cls := "DogVotes$Orders", name := "advance", desc := "()V" } : Jvm.MethodName)) ∈ tt := tt_3 200 rfl rfl
theorem mM_L_110 : (Jvm.Cond.methodLink "DogVotesLaw" (110 : Nat) ({ cls := "DogVotes", name := "night", desc := "(III)I" } : Jvm.MethodName)) ∈ tt := tt_3 201 rfl rfl
theorem mI_X11_night : (Jvm.Cond.instanceMethod ({ cls := "DogVotes", name := "night", desc := "(III)I" } : Jvm.MethodName)) ∈ tt := tt_3 202 rfl rfl
theorem mS_X11_night : (Jvm.Cond.selects "DogVotes" ({ cls := "DogVotes", name := "night", desc := "(III)I" } : Jvm.MethodName) ({ cls := "DogVotes", name := "night", desc := "(III)I" } : Jvm.MethodName)) ∈ tt := tt_3 203 rfl rfl
theorem mC_X11_night : (Jvm.Cond.code ({ cls := "DogVotes", name := "night", desc := "(III)I" } : Jvm.MethodName) prog_1_method_25_code (7 : Nat) (Option.some Jvm.ClassFile.FieldType.int)) ∈ tt := tt_3 204 rfl rfl
theorem mD_X11_228 : (Jvm.Cond.constant "DogVotes" (228 : Nat) (65537 : Int32)) ∈ tt := tt_3 205 rfl rfl
theorem mM_L_114 : (Jvm.Cond.methodLink "DogVotesLaw" (114 : Nat) ({ cls := "DogVotes", name := "image", desc := "(I)I" } : Jvm.MethodName)) ∈ tt := tt_3 206 rfl rfl
theorem mI_X11_image : (Jvm.Cond.instanceMethod ({ cls := "DogVotes", name := "image", desc := "(I)I" } : Jvm.MethodName)) ∈ tt := tt_3 207 rfl rfl
theorem mS_X11_image : (Jvm.Cond.selects "DogVotes" ({ cls := "DogVotes", name := "image", desc := "(I)I" } : Jvm.MethodName) ({ cls := "DogVotes", name := "image", desc := "(I)I" } : Jvm.MethodName)) ∈ tt := tt_3 208 rfl rfl
theorem mC_X11_image : (Jvm.Cond.code ({ cls := "DogVotes", name := "image", desc := "(I)I" } : Jvm.MethodName) prog_1_method_26_code (2 : Nat) (Option.some Jvm.ClassFile.FieldType.int)) ∈ tt := tt_3 209 rfl rfl
theorem mM_X11_229 : (Jvm.Cond.methodLink "DogVotes" (229 : Nat) ({ cls := "DogVotes$Parish", name := "copyFrom", desc := "(LDogVotes$Parish;)V" } : Jvm.MethodName)) ∈ tt := tt_3 210 rfl rfl
theorem mI_X8_copyFrom : (Jvm.Cond.instanceMethod ({ cls := "DogVotes$Parish", name := "copyFrom", desc := "(LDogVotes$Parish;)V" } : Jvm.MethodName)) ∈ tt := tt_3 211 rfl rfl
theorem mS_X8_copyFrom : (Jvm.Cond.selects "DogVotes$Parish" ({ cls := "DogVotes$Parish", name := "copyFrom", desc := "(LDogVotes$Parish;)V" } : Jvm.MethodName) ({ cls := "DogVotes$Parish", name := "copyFrom", desc := "(LDogVotes$Parish;)V" } : Jvm.MethodName)) ∈ tt := tt_3 212 rfl rfl
theorem mC_X8_copyFrom : (Jvm.Cond.code ({ cls := "DogVotes$Parish", name := "copyFrom", desc := "(LDogVotes$Parish;)V" } : Jvm.MethodName) prog_10_method_2_code (2 : Nat) (Option.none : Option Jvm.ClassFile.FieldType)) ∈ tt := tt_3 213 rfl rfl
theorem mM_X8_34 : (Jvm.Cond.methodLink "DogVotes$Parish" (34 : Nat) ({ cls := "DogVotes$Roll", name := "copyFrom", desc := "(LDogVotes$Roll;)V" } : Jvm.MethodName)) ∈ tt := tt_3 214 rfl rfl
theorem mM_X8_38 : (Jvm.Cond.methodLink "DogVotes$Parish" (38 : Nat) ({ cls := "DogVotes$Rows", name := "copyFrom", desc := "(LDogVotes$Rows;)V" } : Jvm.MethodName)) ∈ tt := tt_3 215 rfl rfl
theorem mI_X10_copyFrom : (Jvm.Cond.instanceMethod ({ cls := "DogVotes$Rows", name := "copyFrom", desc := "(LDogVotes$Rows;)V" } : Jvm.MethodName)) ∈ tt := tt_3 216 rfl rfl
theorem mS_X10_copyFrom : (Jvm.Cond.selects "DogVotes$Rows" ({ cls := "DogVotes$Rows", name := "copyFrom", desc := "(LDogVotes$Rows;)V" } : Jvm.MethodName) ({ cls := "DogVotes$Rows", name := "copyFrom", desc := "(LDogVotes$Rows;)V" } : Jvm.MethodName)) ∈ tt := tt_3 217 rfl rfl
theorem mC_X10_copyFrom : (Jvm.Cond.code ({ cls := "DogVotes$Rows", name := "copyFrom", desc := "(LDogVotes$Rows;)V" } : Jvm.MethodName) prog_12_method_3_code (3 : Nat) (Option.none : Option Jvm.ClassFile.FieldType)) ∈ tt := tt_3 218 rfl rfl
theorem mM_X10_29 : (Jvm.Cond.methodLink "DogVotes$Rows" (29 : Nat) ({ cls := "DogVotes$Rows", name := "add", desc := "(III)Z" } : Jvm.MethodName)) ∈ tt := tt_3 219 rfl rfl
theorem mM_L_118 : (Jvm.Cond.methodLink "DogVotesLaw" (118 : Nat) ({ cls := "DogVotes", name := "restore", desc := "(I)I" } : Jvm.MethodName)) ∈ tt := tt_3 220 rfl rfl
theorem mI_X11_restore : (Jvm.Cond.instanceMethod ({ cls := "DogVotes", name := "restore", desc := "(I)I" } : Jvm.MethodName)) ∈ tt := tt_3 221 rfl rfl
theorem mS_X11_restore : (Jvm.Cond.selects "DogVotes" ({ cls := "DogVotes", name := "restore", desc := "(I)I" } : Jvm.MethodName) ({ cls := "DogVotes", name := "restore", desc := "(I)I" } : Jvm.MethodName)) ∈ tt := tt_3 222 rfl rfl
theorem mC_X11_restore : (Jvm.Cond.code ({ cls := "DogVotes", name := "restore", desc := "(I)I" } : Jvm.MethodName) prog_1_method_27_code (2 : Nat) (Option.some Jvm.ClassFile.FieldType.int)) ∈ tt := tt_3 223 rfl rfl
theorem mM_L_122 : (Jvm.Cond.methodLink "DogVotesLaw" (122 : Nat) ({ cls := "DogVotes", name := "told", desc := "(I)I" } : Jvm.MethodName)) ∈ tt := tt_3 224 rfl rfl
theorem mI_X11_told : (Jvm.Cond.instanceMethod ({ cls := "DogVotes", name := "told", desc := "(I)I" } : Jvm.MethodName)) ∈ tt := tt_3 225 rfl rfl
theorem mS_X11_told : (Jvm.Cond.selects "DogVotes" ({ cls := "DogVotes", name := "told", desc := "(I)I" } : Jvm.MethodName) ({ cls := "DogVotes", name := "told", desc := "(I)I" } : Jvm.MethodName)) ∈ tt := tt_3 226 rfl rfl
theorem mC_X11_told : (Jvm.Cond.code ({ cls := "DogVotes", name := "told", desc := "(I)I" } : Jvm.MethodName) prog_1_method_28_code (3 : Nat) (Option.some Jvm.ClassFile.FieldType.int)) ∈ tt := tt_3 227 rfl rfl
theorem mK_L_10 : (Jvm.Cond.classLink "DogVotesLaw" (10 : Nat) "DogVotesModel") ∈ tt := tt_3 228 rfl rfl
theorem mB_X12 : (Jvm.Cond.instantiable "DogVotesModel" (23 : Nat)) ∈ tt := tt_3 229 rfl rfl
theorem mM_L_12 : (Jvm.Cond.methodLink "DogVotesLaw" (12 : Nat) ({ cls := "DogVotesModel", name := "<init>", desc := "()V" } : Jvm.MethodName)) ∈ tt := tt_3 230 rfl rfl
theorem mI_X12_init : (Jvm.Cond.instanceMethod ({ cls := "DogVotesModel", name := "<init>", desc := "()V" } : Jvm.MethodName)) ∈ tt := tt_3 231 rfl rfl
theorem mC_X12_init : (Jvm.Cond.code ({ cls := "DogVotesModel", name := "<init>", desc := "()V" } : Jvm.MethodName) prog_14_method_1_code (2 : Nat) (Option.none : Option Jvm.ClassFile.FieldType)) ∈ tt := tt_3 232 rfl rfl
theorem mM_X12_1 : (Jvm.Cond.methodLink "DogVotesModel" (1 : Nat) ({ cls := "java/lang/Object", name := "<init>", desc := "()V" } : Jvm.MethodName)) ∈ tt := tt_3 233 rfl rfl
theorem mF_X12_63 : (Jvm.Cond.fieldLink "DogVotesModel" (63 : Nat) "DogVotesModel" "dogs" "I") ∈ tt := tt_3 234 rfl rfl
theorem mF_X12_7 : (Jvm.Cond.fieldLink "DogVotesModel" (7 : Nat) "DogVotesModel" "halves" "[I") ∈ tt := tt_3 235 rfl rfl
theorem mF_X12_13 : (Jvm.Cond.fieldLink "DogVotesModel" (13 : Nat) "DogVotesModel" "likes" "[I") ∈ tt := tt_3 236 rfl rfl
theorem mF_X12_16 : (Jvm.Cond.fieldLink "DogVotesModel" (16 : Nat) "DogVotesModel" "isTold" "[Z") ∈ tt := tt_3 237 rfl rfl
theorem mF_X12_20 : (Jvm.Cond.fieldLink "DogVotesModel" (20 : Nat) "DogVotesModel" "fears" "[I") ∈ tt := tt_3 238 rfl rfl
theorem mF_X12_23 : (Jvm.Cond.fieldLink "DogVotesModel" (23 : Nat) "DogVotesModel" "heirs" "[I") ∈ tt := tt_3 239 rfl rfl
theorem mF_X12_26 : (Jvm.Cond.fieldLink "DogVotesModel" (26 : Nat) "DogVotesModel" "hungry" "I") ∈ tt := tt_4 0 rfl rfl
theorem mF_X12_77 : (Jvm.Cond.fieldLink "DogVotesModel" (77 : Nat) "DogVotesModel" "counts" "I") ∈ tt := tt_4 1 rfl rfl
theorem mF_X12_30 : (Jvm.Cond.fieldLink "DogVotesModel" (30 : Nat) "DogVotesModel" "count" "[I") ∈ tt := tt_4 2 rfl rfl
theorem mF_X12_165 : (Jvm.Cond.fieldLink "DogVotesModel" (165 : Nat) "DogVotesModel" "asked" "I") ∈ tt := tt_4 3 rfl rfl
theorem mF_X12_33 : (Jvm.Cond.fieldLink "DogVotesModel" (33 : Nat) "DogVotesModel" "question" "[I") ∈ tt := tt_4 4 rfl rfl
theorem mF_X12_70 : (Jvm.Cond.fieldLink "DogVotesModel" (70 : Nat) "DogVotesModel" "signs" "I") ∈ tt := tt_4 5 rfl rfl
theorem mF_X12_36 : (Jvm.Cond.fieldLink "DogVotesModel" (36 : Nat) "DogVotesModel" "pad" "[I") ∈ tt := tt_4 6 rfl rfl
theorem mF_X12_39 : (Jvm.Cond.fieldLink "DogVotesModel" (39 : Nat) "DogVotesModel" "order" "[I") ∈ tt := tt_4 7 rfl rfl
theorem mF_X12_42 : (Jvm.Cond.fieldLink "DogVotesModel" (42 : Nat) "DogVotesModel" "went" "[I") ∈ tt := tt_4 8 rfl rfl
theorem mF_X12_45 : (Jvm.Cond.fieldLink "DogVotesModel" (45 : Nat) "DogVotesModel" "fill" "[I") ∈ tt := tt_4 9 rfl rfl
theorem mF_X12_88 : (Jvm.Cond.fieldLink "DogVotesModel" (88 : Nat) "DogVotesModel" "atLeft" "I") ∈ tt := tt_4 10 rfl rfl
theorem mF_X12_91 : (Jvm.Cond.fieldLink "DogVotesModel" (91 : Nat) "DogVotesModel" "atRight" "I") ∈ tt := tt_4 11 rfl rfl
theorem mF_X12_48 : (Jvm.Cond.fieldLink "DogVotesModel" (48 : Nat) "DogVotesModel" "winners" "[I") ∈ tt := tt_4 12 rfl rfl
theorem mF_X12_51 : (Jvm.Cond.fieldLink "DogVotesModel" (51 : Nat) "DogVotesModel" "best" "[I") ∈ tt := tt_4 13 rfl rfl
theorem mF_X12_54 : (Jvm.Cond.fieldLink "DogVotesModel" (54 : Nat) "DogVotesModel" "evening" "[I") ∈ tt := tt_4 14 rfl rfl
theorem mF_X12_57 : (Jvm.Cond.fieldLink "DogVotesModel" (57 : Nat) "DogVotesModel" "image" "[I") ∈ tt := tt_4 15 rfl rfl
theorem mF_X12_60 : (Jvm.Cond.fieldLink "DogVotesModel" (60 : Nat) "DogVotesModel" "isKept" "[Z") ∈ tt := tt_4 16 rfl rfl
theorem mA_boolean : (Jvm.Cond.arrayClass Jvm.ClassFile.FieldType.boolean) ∈ tt := tt_4 64 rfl rfl
theorem mM_L_17 : (Jvm.Cond.methodLink "DogVotesLaw" (17 : Nat) ({ cls := "DogVotesModel", name := "say", desc := "(I)I" } : Jvm.MethodName)) ∈ tt := tt_4 65 rfl rfl
theorem mI_X12_say : (Jvm.Cond.instanceMethod ({ cls := "DogVotesModel", name := "say", desc := "(I)I" } : Jvm.MethodName)) ∈ tt := tt_4 66 rfl rfl
theorem mS_X12_say : (Jvm.Cond.selects "DogVotesModel" ({ cls := "DogVotesModel", name := "say", desc := "(I)I" } : Jvm.MethodName) ({ cls := "DogVotesModel", name := "say", desc := "(I)I" } : Jvm.MethodName)) ∈ tt := tt_4 67 rfl rfl
theorem mC_X12_say : (Jvm.Cond.code ({ cls := "DogVotesModel", name := "say", desc := "(I)I" } : Jvm.MethodName) prog_14_method_5_code (2 : Nat) (Option.some Jvm.ClassFile.FieldType.int)) ∈ tt := tt_4 68 rfl rfl
theorem mM_X12_66 : (Jvm.Cond.methodLink "DogVotesModel" (66 : Nat) ({ cls := "DogVotesModel", name := "in", desc := "(III)Z" } : Jvm.MethodName)) ∈ tt := tt_4 69 rfl rfl
theorem mT_X12_in : (Jvm.Cond.static ({ cls := "DogVotesModel", name := "in", desc := "(III)Z" } : Jvm.MethodName)) ∈ tt := tt_4 70 rfl rfl
theorem mC_X12_in : (Jvm.Cond.code ({ cls := "DogVotesModel", name := "in", desc := "(III)Z" } : Jvm.MethodName) prog_14_method_2_code (3 : Nat) (Option.some Jvm.ClassFile.FieldType.boolean)) ∈ tt := tt_4 71 rfl rfl
theorem mM_L_22 : (Jvm.Cond.methodLink "DogVotesLaw" (22 : Nat) ({ cls := "DogVotesModel", name := "wipe", desc := "()I" } : Jvm.MethodName)) ∈ tt := tt_4 72 rfl rfl
theorem mI_X12_wipe : (Jvm.Cond.instanceMethod ({ cls := "DogVotesModel", name := "wipe", desc := "()I" } : Jvm.MethodName)) ∈ tt := tt_4 73 rfl rfl
theorem mS_X12_wipe : (Jvm.Cond.selects "DogVotesModel" ({ cls := "DogVotesModel", name := "wipe", desc := "()I" } : Jvm.MethodName) ({ cls := "DogVotesModel", name := "wipe", desc := "()I" } : Jvm.MethodName)) ∈ tt := tt_4 74 rfl rfl
theorem mC_X12_wipe : (Jvm.Cond.code ({ cls := "DogVotesModel", name := "wipe", desc := "()I" } : Jvm.MethodName) prog_14_method_6_code (2 : Nat) (Option.some Jvm.ClassFile.FieldType.int)) ∈ tt := tt_4 75 rfl rfl
theorem mM_L_26 : (Jvm.Cond.methodLink "DogVotesLaw" (26 : Nat) ({ cls := "DogVotesModel", name := "fault", desc := "()I" } : Jvm.MethodName)) ∈ tt := tt_4 76 rfl rfl
theorem mI_X12_fault : (Jvm.Cond.instanceMethod ({ cls := "DogVotesModel", name := "fault", desc := "()I" } : Jvm.MethodName)) ∈ tt := tt_4 77 rfl rfl
theorem mS_X12_fault : (Jvm.Cond.selects "DogVotesModel" ({ cls := "DogVotesModel", name := "fault", desc := "()I" } : Jvm.MethodName) ({ cls := "DogVotesModel", name := "fault", desc := "()I" } : Jvm.MethodName)) ∈ tt := tt_4 78 rfl rfl
theorem mC_X12_fault : (Jvm.Cond.code ({ cls := "DogVotesModel", name := "fault", desc := "()I" } : Jvm.MethodName) prog_14_method_8_code (1 : Nat) (Option.some Jvm.ClassFile.FieldType.int)) ∈ tt := tt_4 79 rfl rfl
theorem mM_X12_73 : (Jvm.Cond.methodLink "DogVotesModel" (73 : Nat) ({ cls := "DogVotesModel", name := "faultOf", desc := "()I" } : Jvm.MethodName)) ∈ tt := tt_4 80 rfl rfl
theorem mI_X12_faultOf : (Jvm.Cond.instanceMethod ({ cls := "DogVotesModel", name := "faultOf", desc := "()I" } : Jvm.MethodName)) ∈ tt := tt_4 82 rfl rfl
theorem mC_X12_faultOf : (Jvm.Cond.code ({ cls := "DogVotesModel", name := "faultOf", desc := "()I" } : Jvm.MethodName) prog_14_method_7_code (9 : Nat) (Option.some Jvm.ClassFile.FieldType.int)) ∈ tt := tt_4 83 rfl rfl
theorem mM_L_30 : (Jvm.Cond.methodLink "DogVotesLaw" (30 : Nat) ({ cls := "DogVotesModel", name := "roll", desc := "()I" } : Jvm.MethodName)) ∈ tt := tt_4 84 rfl rfl
theorem mI_X12_roll : (Jvm.Cond.instanceMethod ({ cls := "DogVotesModel", name := "roll", desc := "()I" } : Jvm.MethodName)) ∈ tt := tt_4 85 rfl rfl
theorem mS_X12_roll : (Jvm.Cond.selects "DogVotesModel" ({ cls := "DogVotesModel", name := "roll", desc := "()I" } : Jvm.MethodName) ({ cls := "DogVotesModel", name := "roll", desc := "()I" } : Jvm.MethodName)) ∈ tt := tt_4 86 rfl rfl
theorem mC_X12_roll : (Jvm.Cond.code ({ cls := "DogVotesModel", name := "roll", desc := "()I" } : Jvm.MethodName) prog_14_method_9_code (3 : Nat) (Option.some Jvm.ClassFile.FieldType.int)) ∈ tt := tt_4 87 rfl rfl
theorem mM_L_35 : (Jvm.Cond.methodLink "DogVotesLaw" (35 : Nat) ({ cls := "DogVotesModel", name := "dog", desc := "(II)I" } : Jvm.MethodName)) ∈ tt := tt_4 88 rfl rfl
theorem mI_X12_dog : (Jvm.Cond.instanceMethod ({ cls := "DogVotesModel", name := "dog", desc := "(II)I" } : Jvm.MethodName)) ∈ tt := tt_4 89 rfl rfl
theorem mS_X12_dog : (Jvm.Cond.selects "DogVotesModel" ({ cls := "DogVotesModel", name := "dog", desc := "(II)I" } : Jvm.MethodName) ({ cls := "DogVotesModel", name := "dog", desc := "(II)I" } : Jvm.MethodName)) ∈ tt := tt_4 90 rfl rfl
theorem mC_X12_dog : (Jvm.Cond.code ({ cls := "DogVotesModel", name := "dog", desc := "(II)I" } : Jvm.MethodName) prog_14_method_10_code (3 : Nat) (Option.some Jvm.ClassFile.FieldType.int)) ∈ tt := tt_4 91 rfl rfl
theorem mM_X12_80 : (Jvm.Cond.methodLink "DogVotesModel" (80 : Nat) ({ cls := "DogVotesModel", name := "isDog", desc := "(I)Z" } : Jvm.MethodName)) ∈ tt := tt_4 92 rfl rfl
theorem mI_X12_isDog : (Jvm.Cond.instanceMethod ({ cls := "DogVotesModel", name := "isDog", desc := "(I)Z" } : Jvm.MethodName)) ∈ tt := tt_4 94 rfl rfl
theorem mC_X12_isDog : (Jvm.Cond.code ({ cls := "DogVotesModel", name := "isDog", desc := "(I)Z" } : Jvm.MethodName) prog_14_method_4_code (2 : Nat) (Option.some Jvm.ClassFile.FieldType.boolean)) ∈ tt := tt_4 95 rfl rfl
theorem mM_L_39 : (Jvm.Cond.methodLink "DogVotesLaw" (39 : Nat) ({ cls := "DogVotesModel", name := "heir", desc := "(II)I" } : Jvm.MethodName)) ∈ tt := tt_4 96 rfl rfl
theorem mI_X12_heir : (Jvm.Cond.instanceMethod ({ cls := "DogVotesModel", name := "heir", desc := "(II)I" } : Jvm.MethodName)) ∈ tt := tt_4 97 rfl rfl
theorem mS_X12_heir : (Jvm.Cond.selects "DogVotesModel" ({ cls := "DogVotesModel", name := "heir", desc := "(II)I" } : Jvm.MethodName) ({ cls := "DogVotesModel", name := "heir", desc := "(II)I" } : Jvm.MethodName)) ∈ tt := tt_4 98 rfl rfl
theorem mC_X12_heir : (Jvm.Cond.code ({ cls := "DogVotesModel", name := "heir", desc := "(II)I" } : Jvm.MethodName) prog_14_method_11_code (4 : Nat) (Option.some Jvm.ClassFile.FieldType.int)) ∈ tt := tt_4 99 rfl rfl
theorem mM_L_43 : (Jvm.Cond.methodLink "DogVotesLaw" (43 : Nat) ({ cls := "DogVotesModel", name := "dies", desc := "(I)I" } : Jvm.MethodName)) ∈ tt := tt_4 100 rfl rfl
theorem mI_X12_dies : (Jvm.Cond.instanceMethod ({ cls := "DogVotesModel", name := "dies", desc := "(I)I" } : Jvm.MethodName)) ∈ tt := tt_4 101 rfl rfl
theorem mS_X12_dies : (Jvm.Cond.selects "DogVotesModel" ({ cls := "DogVotesModel", name := "dies", desc := "(I)I" } : Jvm.MethodName) ({ cls := "DogVotesModel", name := "dies", desc := "(I)I" } : Jvm.MethodName)) ∈ tt := tt_4 102 rfl rfl
theorem mC_X12_dies : (Jvm.Cond.code ({ cls := "DogVotesModel", name := "dies", desc := "(I)I" } : Jvm.MethodName) prog_14_method_12_code (5 : Nat) (Option.some Jvm.ClassFile.FieldType.int)) ∈ tt := tt_4 103 rfl rfl
theorem mM_L_48 : (Jvm.Cond.methodLink "DogVotesLaw" (48 : Nat) ({ cls := "DogVotesModel", name := "goes", desc := "(III)I" } : Jvm.MethodName)) ∈ tt := tt_4 104 rfl rfl
theorem mI_X12_goes : (Jvm.Cond.instanceMethod ({ cls := "DogVotesModel", name := "goes", desc := "(III)I" } : Jvm.MethodName)) ∈ tt := tt_4 105 rfl rfl
theorem mS_X12_goes : (Jvm.Cond.selects "DogVotesModel" ({ cls := "DogVotesModel", name := "goes", desc := "(III)I" } : Jvm.MethodName) ({ cls := "DogVotesModel", name := "goes", desc := "(III)I" } : Jvm.MethodName)) ∈ tt := tt_4 106 rfl rfl
theorem mC_X12_goes : (Jvm.Cond.code ({ cls := "DogVotesModel", name := "goes", desc := "(III)I" } : Jvm.MethodName) prog_14_method_20_code (4 : Nat) (Option.some Jvm.ClassFile.FieldType.int)) ∈ tt := tt_4 107 rfl rfl
theorem mM_X12_107 : (Jvm.Cond.methodLink "DogVotesModel" (107 : Nat) ({ cls := "DogVotesModel", name := "areLivers", desc := "(II)Z" } : Jvm.MethodName)) ∈ tt := tt_4 108 rfl rfl
theorem mT_X12_areLivers : (Jvm.Cond.static ({ cls := "DogVotesModel", name := "areLivers", desc := "(II)Z" } : Jvm.MethodName)) ∈ tt := tt_4 109 rfl rfl
theorem mC_X12_areLivers : (Jvm.Cond.code ({ cls := "DogVotesModel", name := "areLivers", desc := "(II)Z" } : Jvm.MethodName) prog_14_method_19_code (2 : Nat) (Option.some Jvm.ClassFile.FieldType.boolean)) ∈ tt := tt_4 110 rfl rfl
theorem mM_X12_110 : (Jvm.Cond.methodLink "DogVotesModel" (110 : Nat) ({ cls := "DogVotesModel", name := "fresh", desc := "(III)V" } : Jvm.MethodName)) ∈ tt := tt_4 111 rfl rfl
theorem mI_X12_fresh : (Jvm.Cond.instanceMethod ({ cls := "DogVotesModel", name := "fresh", desc := "(III)V" } : Jvm.MethodName)) ∈ tt := tt_4 113 rfl rfl
theorem mC_X12_fresh : (Jvm.Cond.code ({ cls := "DogVotesModel", name := "fresh", desc := "(III)V" } : Jvm.MethodName) prog_14_method_18_code (4 : Nat) (Option.none : Option Jvm.ClassFile.FieldType)) ∈ tt := tt_4 114 rfl rfl
theorem mM_X12_97 : (Jvm.Cond.methodLink "DogVotesModel" (97 : Nat) ({ cls := "DogVotesModel", name := "byLetters", desc := "()V" } : Jvm.MethodName)) ∈ tt := tt_4 115 rfl rfl
theorem mI_X12_byLetters : (Jvm.Cond.instanceMethod ({ cls := "DogVotesModel", name := "byLetters", desc := "()V" } : Jvm.MethodName)) ∈ tt := tt_4 117 rfl rfl
theorem mC_X12_byLetters : (Jvm.Cond.code ({ cls := "DogVotesModel", name := "byLetters", desc := "()V" } : Jvm.MethodName) prog_14_method_13_code (2 : Nat) (Option.none : Option Jvm.ClassFile.FieldType)) ∈ tt := tt_4 118 rfl rfl
theorem mM_X12_100 : (Jvm.Cond.methodLink "DogVotesModel" (100 : Nat) ({ cls := "DogVotesModel", name := "nobodyFull", desc := "()V" } : Jvm.MethodName)) ∈ tt := tt_4 119 rfl rfl
theorem mI_X12_nobodyFull : (Jvm.Cond.instanceMethod ({ cls := "DogVotesModel", name := "nobodyFull", desc := "()V" } : Jvm.MethodName)) ∈ tt := tt_4 121 rfl rfl
theorem mC_X12_nobodyFull : (Jvm.Cond.code ({ cls := "DogVotesModel", name := "nobodyFull", desc := "()V" } : Jvm.MethodName) prog_14_method_14_code (2 : Nat) (Option.none : Option Jvm.ClassFile.FieldType)) ∈ tt := tt_4 122 rfl rfl
theorem mM_X12_103 : (Jvm.Cond.methodLink "DogVotesModel" (103 : Nat) ({ cls := "DogVotesModel", name := "letGo", desc := "(III)V" } : Jvm.MethodName)) ∈ tt := tt_4 123 rfl rfl
theorem mI_X12_letGo : (Jvm.Cond.instanceMethod ({ cls := "DogVotesModel", name := "letGo", desc := "(III)V" } : Jvm.MethodName)) ∈ tt := tt_4 125 rfl rfl
theorem mC_X12_letGo : (Jvm.Cond.code ({ cls := "DogVotesModel", name := "letGo", desc := "(III)V" } : Jvm.MethodName) prog_14_method_16_code (8 : Nat) (Option.none : Option Jvm.ClassFile.FieldType)) ∈ tt := tt_4 126 rfl rfl
theorem mM_X12_94 : (Jvm.Cond.methodLink "DogVotesModel" (94 : Nat) ({ cls := "DogVotesModel", name := "isFeared", desc := "(II)Z" } : Jvm.MethodName)) ∈ tt := tt_4 127 rfl rfl
theorem mI_X12_isFeared : (Jvm.Cond.instanceMethod ({ cls := "DogVotesModel", name := "isFeared", desc := "(II)Z" } : Jvm.MethodName)) ∈ tt := tt_4 129 rfl rfl
theorem mC_X12_isFeared : (Jvm.Cond.code ({ cls := "DogVotesModel", name := "isFeared", desc := "(II)Z" } : Jvm.MethodName) prog_14_method_15_code (5 : Nat) (Option.some Jvm.ClassFile.FieldType.boolean)) ∈ tt := tt_4 130 rfl rfl
theorem mM_X12_84 : (Jvm.Cond.methodLink "DogVotesModel" (84 : Nat) ({ cls := "DogVotesModel", name := "has", desc := "(II)Z" } : Jvm.MethodName)) ∈ tt := tt_4 131 rfl rfl
theorem mT_X12_has : (Jvm.Cond.static ({ cls := "DogVotesModel", name := "has", desc := "(II)Z" } : Jvm.MethodName)) ∈ tt := tt_4 132 rfl rfl
theorem mC_X12_has : (Jvm.Cond.code ({ cls := "DogVotesModel", name := "has", desc := "(II)Z" } : Jvm.MethodName) prog_14_method_3_code (2 : Nat) (Option.some Jvm.ClassFile.FieldType.boolean)) ∈ tt := tt_4 133 rfl rfl
theorem mM_L_52 : (Jvm.Cond.methodLink "DogVotesLaw" (52 : Nat) ({ cls := "DogVotesModel", name := "vote", desc := "(III)I" } : Jvm.MethodName)) ∈ tt := tt_4 134 rfl rfl
theorem mI_X12_vote : (Jvm.Cond.instanceMethod ({ cls := "DogVotesModel", name := "vote", desc := "(III)I" } : Jvm.MethodName)) ∈ tt := tt_4 135 rfl rfl
theorem mS_X12_vote : (Jvm.Cond.selects "DogVotesModel" ({ cls := "DogVotesModel", name := "vote", desc := "(III)I" } : Jvm.MethodName) ({ cls := "DogVotesModel", name := "vote", desc := "(III)I" } : Jvm.MethodName)) ∈ tt := tt_4 136 rfl rfl
theorem mC_X12_vote : (Jvm.Cond.code ({ cls := "DogVotesModel", name := "vote", desc := "(III)I" } : Jvm.MethodName) prog_14_method_21_code (4 : Nat) (Option.some Jvm.ClassFile.FieldType.int)) ∈ tt := tt_4 137 rfl rfl
theorem mM_X12_113 : (Jvm.Cond.methodLink "DogVotesModel" (113 : Nat) ({ cls := "DogVotesModel", name := "winner", desc := "()I" } : Jvm.MethodName)) ∈ tt := tt_4 138 rfl rfl
theorem mI_X12_winner : (Jvm.Cond.instanceMethod ({ cls := "DogVotesModel", name := "winner", desc := "()I" } : Jvm.MethodName)) ∈ tt := tt_4 140 rfl rfl
theorem mC_X12_winner : (Jvm.Cond.code ({ cls := "DogVotesModel", name := "winner", desc := "()I" } : Jvm.MethodName) prog_14_method_17_code (1 : Nat) (Option.some Jvm.ClassFile.FieldType.int)) ∈ tt := tt_4 141 rfl rfl
theorem mM_L_56 : (Jvm.Cond.methodLink "DogVotesLaw" (56 : Nat) ({ cls := "DogVotesModel", name := "stolen", desc := "(II)I" } : Jvm.MethodName)) ∈ tt := tt_4 142 rfl rfl
theorem mI_X12_stolen : (Jvm.Cond.instanceMethod ({ cls := "DogVotesModel", name := "stolen", desc := "(II)I" } : Jvm.MethodName)) ∈ tt := tt_4 143 rfl rfl
theorem mS_X12_stolen : (Jvm.Cond.selects "DogVotesModel" ({ cls := "DogVotesModel", name := "stolen", desc := "(II)I" } : Jvm.MethodName) ({ cls := "DogVotesModel", name := "stolen", desc := "(II)I" } : Jvm.MethodName)) ∈ tt := tt_4 144 rfl rfl
theorem mC_X12_stolen : (Jvm.Cond.code ({ cls := "DogVotesModel", name := "stolen", desc := "(II)I" } : Jvm.MethodName) prog_14_method_22_code (6 : Nat) (Option.some Jvm.ClassFile.FieldType.int)) ∈ tt := tt_4 145 rfl rfl
theorem mM_L_60 : (Jvm.Cond.methodLink "DogVotesLaw" (60 : Nat) ({ cls := "DogVotesModel", name := "won", desc := "(I)I" } : Jvm.MethodName)) ∈ tt := tt_4 146 rfl rfl
theorem mI_X12_won : (Jvm.Cond.instanceMethod ({ cls := "DogVotesModel", name := "won", desc := "(I)I" } : Jvm.MethodName)) ∈ tt := tt_4 147 rfl rfl
theorem mS_X12_won : (Jvm.Cond.selects "DogVotesModel" ({ cls := "DogVotesModel", name := "won", desc := "(I)I" } : Jvm.MethodName) ({ cls := "DogVotesModel", name := "won", desc := "(I)I" } : Jvm.MethodName)) ∈ tt := tt_4 148 rfl rfl
theorem mC_X12_won : (Jvm.Cond.code ({ cls := "DogVotesModel", name := "won", desc := "(I)I" } : Jvm.MethodName) prog_14_method_23_code (3 : Nat) (Option.some Jvm.ClassFile.FieldType.int)) ∈ tt := tt_4 149 rfl rfl
theorem mM_L_64 : (Jvm.Cond.methodLink "DogVotesLaw" (64 : Nat) ({ cls := "DogVotesModel", name := "rests", desc := "(I)I" } : Jvm.MethodName)) ∈ tt := tt_4 150 rfl rfl
theorem mI_X12_rests : (Jvm.Cond.instanceMethod ({ cls := "DogVotesModel", name := "rests", desc := "(I)I" } : Jvm.MethodName)) ∈ tt := tt_4 151 rfl rfl
theorem mS_X12_rests : (Jvm.Cond.selects "DogVotesModel" ({ cls := "DogVotesModel", name := "rests", desc := "(I)I" } : Jvm.MethodName) ({ cls := "DogVotesModel", name := "rests", desc := "(I)I" } : Jvm.MethodName)) ∈ tt := tt_4 152 rfl rfl
theorem mC_X12_rests : (Jvm.Cond.code ({ cls := "DogVotesModel", name := "rests", desc := "(I)I" } : Jvm.MethodName) prog_14_method_26_code (4 : Nat) (Option.some Jvm.ClassFile.FieldType.int)) ∈ tt := tt_4 153 rfl rfl
theorem mM_X12_120 : (Jvm.Cond.methodLink "DogVotesModel" (120 : Nat) ({ cls := "DogVotesModel", name := "rest", desc := "(II)Z" } : Jvm.MethodName)) ∈ tt := tt_4 154 rfl rfl
theorem mI_X12_rest : (Jvm.Cond.instanceMethod ({ cls := "DogVotesModel", name := "rest", desc := "(II)Z" } : Jvm.MethodName)) ∈ tt := tt_4 156 rfl rfl
theorem mC_X12_rest : (Jvm.Cond.code ({ cls := "DogVotesModel", name := "rest", desc := "(II)Z" } : Jvm.MethodName) prog_14_method_25_code (5 : Nat) (Option.some Jvm.ClassFile.FieldType.boolean)) ∈ tt := tt_4 157 rfl rfl
theorem mM_X12_116 : (Jvm.Cond.methodLink "DogVotesModel" (116 : Nat) ({ cls := "DogVotesModel", name := "worthTo", desc := "(III)I" } : Jvm.MethodName)) ∈ tt := tt_4 158 rfl rfl
theorem mT_X12_worthTo : (Jvm.Cond.static ({ cls := "DogVotesModel", name := "worthTo", desc := "(III)I" } : Jvm.MethodName)) ∈ tt := tt_4 159 rfl rfl
theorem mC_X12_worthTo : (Jvm.Cond.code ({ cls := "DogVotesModel", name := "worthTo", desc := "(III)I" } : Jvm.MethodName) prog_14_method_24_code (3 : Nat) (Option.some Jvm.ClassFile.FieldType.int)) ∈ tt := tt_4 160 rfl rfl
theorem mM_L_68 : (Jvm.Cond.methodLink "DogVotesLaw" (68 : Nat) ({ cls := "DogVotesModel", name := "letOut", desc := "(III)I" } : Jvm.MethodName)) ∈ tt := tt_4 161 rfl rfl
theorem mI_X12_letOut : (Jvm.Cond.instanceMethod ({ cls := "DogVotesModel", name := "letOut", desc := "(III)I" } : Jvm.MethodName)) ∈ tt := tt_4 162 rfl rfl
theorem mS_X12_letOut : (Jvm.Cond.selects "DogVotesModel" ({ cls := "DogVotesModel", name := "letOut", desc := "(III)I" } : Jvm.MethodName) ({ cls := "DogVotesModel", name := "letOut", desc := "(III)I" } : Jvm.MethodName)) ∈ tt := tt_4 163 rfl rfl
theorem mC_X12_letOut : (Jvm.Cond.code ({ cls := "DogVotesModel", name := "letOut", desc := "(III)I" } : Jvm.MethodName) prog_14_method_30_code (6 : Nat) (Option.some Jvm.ClassFile.FieldType.int)) ∈ tt := tt_4 164 rfl rfl
theorem mM_X12_127 : (Jvm.Cond.methodLink "DogVotesModel" (127 : Nat) ({ cls := "DogVotesModel", name := "keepOrder", desc := "()V" } : Jvm.MethodName)) ∈ tt := tt_4 165 rfl rfl
theorem mI_X12_keepOrder : (Jvm.Cond.instanceMethod ({ cls := "DogVotesModel", name := "keepOrder", desc := "()V" } : Jvm.MethodName)) ∈ tt := tt_4 167 rfl rfl
theorem mC_X12_keepOrder : (Jvm.Cond.code ({ cls := "DogVotesModel", name := "keepOrder", desc := "()V" } : Jvm.MethodName) prog_14_method_29_code (2 : Nat) (Option.none : Option Jvm.ClassFile.FieldType)) ∈ tt := tt_4 168 rfl rfl
theorem mM_X12_130 : (Jvm.Cond.methodLink "DogVotesModel" (130 : Nat) ({ cls := "DogVotesModel", name := "nextOrder", desc := "(I)Z" } : Jvm.MethodName)) ∈ tt := tt_4 169 rfl rfl
theorem mI_X12_nextOrder : (Jvm.Cond.instanceMethod ({ cls := "DogVotesModel", name := "nextOrder", desc := "(I)Z" } : Jvm.MethodName)) ∈ tt := tt_4 171 rfl rfl
theorem mC_X12_nextOrder : (Jvm.Cond.code ({ cls := "DogVotesModel", name := "nextOrder", desc := "(I)Z" } : Jvm.MethodName) prog_14_method_27_code (6 : Nat) (Option.some Jvm.ClassFile.FieldType.boolean)) ∈ tt := tt_4 172 rfl rfl
theorem mM_X12_123 : (Jvm.Cond.methodLink "DogVotesModel" (123 : Nat) ({ cls := "DogVotesModel", name := "change", desc := "(II)V" } : Jvm.MethodName)) ∈ tt := tt_4 173 rfl rfl
theorem mI_X12_change : (Jvm.Cond.instanceMethod ({ cls := "DogVotesModel", name := "change", desc := "(II)V" } : Jvm.MethodName)) ∈ tt := tt_4 175 rfl rfl
theorem mC_X12_change : (Jvm.Cond.code ({ cls := "DogVotesModel", name := "change", desc := "(II)V" } : Jvm.MethodName) prog_14_method_28_code (4 : Nat) (Option.none : Option Jvm.ClassFile.FieldType)) ∈ tt := tt_4 176 rfl rfl
theorem mM_L_72 : (Jvm.Cond.methodLink "DogVotesLaw" (72 : Nat) ({ cls := "DogVotesModel", name := "swings", desc := "(I)I" } : Jvm.MethodName)) ∈ tt := tt_4 177 rfl rfl
theorem mI_X12_swings : (Jvm.Cond.instanceMethod ({ cls := "DogVotesModel", name := "swings", desc := "(I)I" } : Jvm.MethodName)) ∈ tt := tt_4 178 rfl rfl
theorem mS_X12_swings : (Jvm.Cond.selects "DogVotesModel" ({ cls := "DogVotesModel", name := "swings", desc := "(I)I" } : Jvm.MethodName) ({ cls := "DogVotesModel", name := "swings", desc := "(I)I" } : Jvm.MethodName)) ∈ tt := tt_4 179 rfl rfl
theorem mC_X12_swings : (Jvm.Cond.code ({ cls := "DogVotesModel", name := "swings", desc := "(I)I" } : Jvm.MethodName) prog_14_method_34_code (5 : Nat) (Option.some Jvm.ClassFile.FieldType.int)) ∈ tt := tt_4 180 rfl rfl
theorem mM_X12_133 : (Jvm.Cond.methodLink "DogVotesModel" (133 : Nat) ({ cls := "DogVotesModel", name := "dead", desc := "()I" } : Jvm.MethodName)) ∈ tt := tt_4 181 rfl rfl
theorem mI_X12_dead : (Jvm.Cond.instanceMethod ({ cls := "DogVotesModel", name := "dead", desc := "()I" } : Jvm.MethodName)) ∈ tt := tt_4 183 rfl rfl
theorem mC_X12_dead : (Jvm.Cond.code ({ cls := "DogVotesModel", name := "dead", desc := "()I" } : Jvm.MethodName) prog_14_method_33_code (3 : Nat) (Option.some Jvm.ClassFile.FieldType.int)) ∈ tt := tt_4 184 rfl rfl
theorem mM_X12_136 : (Jvm.Cond.methodLink "DogVotesModel" (136 : Nat) ({ cls := "DogVotesModel", name := "sumOf", desc := "(I)I" } : Jvm.MethodName)) ∈ tt := tt_4 185 rfl rfl
theorem mI_X12_sumOf : (Jvm.Cond.instanceMethod ({ cls := "DogVotesModel", name := "sumOf", desc := "(I)I" } : Jvm.MethodName)) ∈ tt := tt_4 187 rfl rfl
theorem mC_X12_sumOf : (Jvm.Cond.code ({ cls := "DogVotesModel", name := "sumOf", desc := "(I)I" } : Jvm.MethodName) prog_14_method_32_code (4 : Nat) (Option.some Jvm.ClassFile.FieldType.int)) ∈ tt := tt_4 188 rfl rfl
theorem mM_X12_140 : (Jvm.Cond.methodLink "DogVotesModel" (140 : Nat) ({ cls := "DogVotesModel", name := "allHalves", desc := "()I" } : Jvm.MethodName)) ∈ tt := tt_4 189 rfl rfl
theorem mI_X12_allHalves : (Jvm.Cond.instanceMethod ({ cls := "DogVotesModel", name := "allHalves", desc := "()I" } : Jvm.MethodName)) ∈ tt := tt_4 191 rfl rfl
theorem mC_X12_allHalves : (Jvm.Cond.code ({ cls := "DogVotesModel", name := "allHalves", desc := "()I" } : Jvm.MethodName) prog_14_method_31_code (3 : Nat) (Option.some Jvm.ClassFile.FieldType.int)) ∈ tt := tt_4 192 rfl rfl
theorem mM_L_77 : (Jvm.Cond.methodLink "DogVotesLaw" (77 : Nat) ({ cls := "DogVotesModel", name := "turn", desc := "(II)J" } : Jvm.MethodName)) ∈ tt := tt_4 193 rfl rfl
theorem mI_X12_turn : (Jvm.Cond.instanceMethod ({ cls := "DogVotesModel", name := "turn", desc := "(II)J" } : Jvm.MethodName)) ∈ tt := tt_4 194 rfl rfl
theorem mS_X12_turn : (Jvm.Cond.selects "DogVotesModel" ({ cls := "DogVotesModel", name := "turn", desc := "(II)J" } : Jvm.MethodName) ({ cls := "DogVotesModel", name := "turn", desc := "(II)J" } : Jvm.MethodName)) ∈ tt := tt_4 195 rfl rfl
theorem mC_X12_turn : (Jvm.Cond.code ({ cls := "DogVotesModel", name := "turn", desc := "(II)J" } : Jvm.MethodName) prog_14_method_37_code (9 : Nat) (Option.some Jvm.ClassFile.FieldType.long)) ∈ tt := tt_4 196 rfl rfl
theorem mD_X12_143 : (Jvm.Cond.constantLong "DogVotesModel" (143 : Nat) (-1000000000000000001 : Int64)) ∈ tt := tt_4 197 rfl rfl
theorem mD_X12_145 : (Jvm.Cond.constantLong "DogVotesModel" (145 : Nat) (-1000000000000000002 : Int64)) ∈ tt := tt_4 198 rfl rfl
theorem mM_X12_147 : (Jvm.Cond.methodLink "DogVotesModel" (147 : Nat) ({ cls := "DogVotesModel", name := "bits", desc := "(I)I" } : Jvm.MethodName)) ∈ tt := tt_4 199 rfl rfl
theorem mT_X12_bits : (Jvm.Cond.static ({ cls := "DogVotesModel", name := "bits", desc := "(I)I" } : Jvm.MethodName)) ∈ tt := tt_4 200 rfl rfl
theorem mC_X12_bits : (Jvm.Cond.code ({ cls := "DogVotesModel", name := "bits", desc := "(I)I" } : Jvm.MethodName) prog_14_method_36_code (3 : Nat) (Option.some Jvm.ClassFile.FieldType.int)) ∈ tt := tt_4 201 rfl rfl
theorem mM_X12_150 : (Jvm.Cond.methodLink "DogVotesModel" (150 : Nat) ({ cls := "DogVotesModel", name := "factorial", desc := "(I)I" } : Jvm.MethodName)) ∈ tt := tt_4 202 rfl rfl
theorem mT_X12_factorial : (Jvm.Cond.static ({ cls := "DogVotesModel", name := "factorial", desc := "(I)I" } : Jvm.MethodName)) ∈ tt := tt_4 203 rfl rfl
theorem mC_X12_factorial : (Jvm.Cond.code ({ cls := "DogVotesModel", name := "factorial", desc := "(I)I" } : Jvm.MethodName) prog_14_method_35_code (3 : Nat) (Option.some Jvm.ClassFile.FieldType.int)) ∈ tt := tt_4 204 rfl rfl
theorem mM_L_81 : (Jvm.Cond.methodLink "DogVotesLaw" (81 : Nat) ({ cls := "DogVotesModel", name := "counted", desc := "(III)I" } : Jvm.MethodName)) ∈ tt := tt_4 205 rfl rfl
theorem mI_X12_counted : (Jvm.Cond.instanceMethod ({ cls := "DogVotesModel", name := "counted", desc := "(III)I" } : Jvm.MethodName)) ∈ tt := tt_4 206 rfl rfl
theorem mS_X12_counted : (Jvm.Cond.selects "DogVotesModel" ({ cls := "DogVotesModel", name := "counted", desc := "(III)I" } : Jvm.MethodName) ({ cls := "DogVotesModel", name := "counted", desc := "(III)I" } : Jvm.MethodName)) ∈ tt := tt_4 207 rfl rfl
theorem mC_X12_counted : (Jvm.Cond.code ({ cls := "DogVotesModel", name := "counted", desc := "(III)I" } : Jvm.MethodName) prog_14_method_38_code (4 : Nat) (Option.some Jvm.ClassFile.FieldType.int)) ∈ tt := tt_4 208 rfl rfl
theorem mM_L_85 : (Jvm.Cond.methodLink "DogVotesLaw" (85 : Nat) ({ cls := "DogVotesModel", name := "forget", desc := "()I" } : Jvm.MethodName)) ∈ tt := tt_4 209 rfl rfl
theorem mI_X12_forget : (Jvm.Cond.instanceMethod ({ cls := "DogVotesModel", name := "forget", desc := "()I" } : Jvm.MethodName)) ∈ tt := tt_4 210 rfl rfl
theorem mS_X12_forget : (Jvm.Cond.selects "DogVotesModel" ({ cls := "DogVotesModel", name := "forget", desc := "()I" } : Jvm.MethodName) ({ cls := "DogVotesModel", name := "forget", desc := "()I" } : Jvm.MethodName)) ∈ tt := tt_4 211 rfl rfl
theorem mC_X12_forget : (Jvm.Cond.code ({ cls := "DogVotesModel", name := "forget", desc := "()I" } : Jvm.MethodName) prog_14_method_39_code (2 : Nat) (Option.some Jvm.ClassFile.FieldType.int)) ∈ tt := tt_4 212 rfl rfl
theorem mM_L_89 : (Jvm.Cond.methodLink "DogVotesLaw" (89 : Nat) ({ cls := "DogVotesModel", name := "fits", desc := "(I)I" } : Jvm.MethodName)) ∈ tt := tt_4 213 rfl rfl
theorem mI_X12_fits : (Jvm.Cond.instanceMethod ({ cls := "DogVotesModel", name := "fits", desc := "(I)I" } : Jvm.MethodName)) ∈ tt := tt_4 214 rfl rfl
theorem mS_X12_fits : (Jvm.Cond.selects "DogVotesModel" ({ cls := "DogVotesModel", name := "fits", desc := "(I)I" } : Jvm.MethodName) ({ cls := "DogVotesModel", name := "fits", desc := "(I)I" } : Jvm.MethodName)) ∈ tt := tt_4 215 rfl rfl
theorem mC_X12_fits : (Jvm.Cond.code ({ cls := "DogVotesModel", name := "fits", desc := "(I)I" } : Jvm.MethodName) prog_14_method_44_code (6 : Nat) (Option.some Jvm.ClassFile.FieldType.int)) ∈ tt := tt_4 216 rfl rfl
theorem mM_X12_156 : (Jvm.Cond.methodLink "DogVotesModel" (156 : Nat) ({ cls := "DogVotesModel", name := "codes", desc := "()I" } : Jvm.MethodName)) ∈ tt := tt_4 217 rfl rfl
theorem mI_X12_codes : (Jvm.Cond.instanceMethod ({ cls := "DogVotesModel", name := "codes", desc := "()I" } : Jvm.MethodName)) ∈ tt := tt_4 219 rfl rfl
theorem mC_X12_codes : (Jvm.Cond.code ({ cls := "DogVotesModel", name := "codes", desc := "()I" } : Jvm.MethodName) prog_14_method_41_code (3 : Nat) (Option.some Jvm.ClassFile.FieldType.int)) ∈ tt := tt_4 220 rfl rfl
theorem mM_X12_153 : (Jvm.Cond.methodLink "DogVotesModel" (153 : Nat) ({ cls := "DogVotesModel", name := "opens", desc := "()I" } : Jvm.MethodName)) ∈ tt := tt_4 221 rfl rfl
theorem mI_X12_opens : (Jvm.Cond.instanceMethod ({ cls := "DogVotesModel", name := "opens", desc := "()I" } : Jvm.MethodName)) ∈ tt := tt_4 223 rfl rfl
theorem mC_X12_opens : (Jvm.Cond.code ({ cls := "DogVotesModel", name := "opens", desc := "()I" } : Jvm.MethodName) prog_14_method_40_code (3 : Nat) (Option.some Jvm.ClassFile.FieldType.int)) ∈ tt := tt_4 224 rfl rfl
theorem mM_X12_159 : (Jvm.Cond.methodLink "DogVotesModel" (159 : Nat) ({ cls := "DogVotesModel", name := "write", desc := "(I)Z" } : Jvm.MethodName)) ∈ tt := tt_4 225 rfl rfl
theorem mI_X12_write : (Jvm.Cond.instanceMethod ({ cls := "DogVotesModel", name := "write", desc := "(I)Z" } : Jvm.MethodName)) ∈ tt := tt_4 227 rfl rfl
theorem mC_X12_write : (Jvm.Cond.code ({ cls := "DogVotesModel", name := "write", desc := "(I)Z" } : Jvm.MethodName) prog_14_method_42_code (5 : Nat) (Option.some Jvm.ClassFile.FieldType.boolean)) ∈ tt := tt_4 228 rfl rfl
theorem mM_X12_162 : (Jvm.Cond.methodLink "DogVotesModel" (162 : Nat) ({ cls := "DogVotesModel", name := "unwrite", desc := "()V" } : Jvm.MethodName)) ∈ tt := tt_4 229 rfl rfl
theorem mI_X12_unwrite : (Jvm.Cond.instanceMethod ({ cls := "DogVotesModel", name := "unwrite", desc := "()V" } : Jvm.MethodName)) ∈ tt := tt_4 231 rfl rfl
theorem mC_X12_unwrite : (Jvm.Cond.code ({ cls := "DogVotesModel", name := "unwrite", desc := "()V" } : Jvm.MethodName) prog_14_method_43_code (2 : Nat) (Option.none : Option Jvm.ClassFile.FieldType)) ∈ tt := tt_4 232 rfl rfl
theorem mM_L_93 : (Jvm.Cond.methodLink "DogVotesLaw" (93 : Nat) ({ cls := "DogVotesModel", name := "liking", desc := "(II)I" } : Jvm.MethodName)) ∈ tt := tt_4 233 rfl rfl
theorem mI_X12_liking : (Jvm.Cond.instanceMethod ({ cls := "DogVotesModel", name := "liking", desc := "(II)I" } : Jvm.MethodName)) ∈ tt := tt_4 234 rfl rfl
theorem mS_X12_liking : (Jvm.Cond.selects "DogVotesModel" ({ cls := "DogVotesModel", name := "liking", desc := "(II)I" } : Jvm.MethodName) ({ cls := "DogVotesModel", name := "liking", desc := "(II)I" } : Jvm.MethodName)) ∈ tt := tt_4 235 rfl rfl
theorem mC_X12_liking : (Jvm.Cond.code ({ cls := "DogVotesModel", name := "liking", desc := "(II)I" } : Jvm.MethodName) prog_14_method_45_code (7 : Nat) (Option.some Jvm.ClassFile.FieldType.int)) ∈ tt := tt_4 236 rfl rfl
theorem mM_L_97 : (Jvm.Cond.methodLink "DogVotesLaw" (97 : Nat) ({ cls := "DogVotesModel", name := "ask", desc := "(III)I" } : Jvm.MethodName)) ∈ tt := tt_4 237 rfl rfl
theorem mI_X12_ask : (Jvm.Cond.instanceMethod ({ cls := "DogVotesModel", name := "ask", desc := "(III)I" } : Jvm.MethodName)) ∈ tt := tt_4 238 rfl rfl
theorem mS_X12_ask : (Jvm.Cond.selects "DogVotesModel" ({ cls := "DogVotesModel", name := "ask", desc := "(III)I" } : Jvm.MethodName) ({ cls := "DogVotesModel", name := "ask", desc := "(III)I" } : Jvm.MethodName)) ∈ tt := tt_4 239 rfl rfl
theorem mC_X12_ask : (Jvm.Cond.code ({ cls := "DogVotesModel", name := "ask", desc := "(III)I" } : Jvm.MethodName) prog_14_method_46_code (4 : Nat) (Option.some Jvm.ClassFile.FieldType.int)) ∈ tt := tt_5 0 rfl rfl
theorem mM_L_101 : (Jvm.Cond.methodLink "DogVotesLaw" (101 : Nat) ({ cls := "DogVotesModel", name := "drop", desc := "()I" } : Jvm.MethodName)) ∈ tt := tt_5 1 rfl rfl
theorem mI_X12_drop : (Jvm.Cond.instanceMethod ({ cls := "DogVotesModel", name := "drop", desc := "()I" } : Jvm.MethodName)) ∈ tt := tt_5 2 rfl rfl
theorem mS_X12_drop : (Jvm.Cond.selects "DogVotesModel" ({ cls := "DogVotesModel", name := "drop", desc := "()I" } : Jvm.MethodName) ({ cls := "DogVotesModel", name := "drop", desc := "()I" } : Jvm.MethodName)) ∈ tt := tt_5 3 rfl rfl
theorem mC_X12_drop : (Jvm.Cond.code ({ cls := "DogVotesModel", name := "drop", desc := "()I" } : Jvm.MethodName) prog_14_method_47_code (2 : Nat) (Option.some Jvm.ClassFile.FieldType.int)) ∈ tt := tt_5 4 rfl rfl
theorem mM_L_105 : (Jvm.Cond.methodLink "DogVotesLaw" (105 : Nat) ({ cls := "DogVotesModel", name := "hunger", desc := "(I)I" } : Jvm.MethodName)) ∈ tt := tt_5 5 rfl rfl
theorem mI_X12_hunger : (Jvm.Cond.instanceMethod ({ cls := "DogVotesModel", name := "hunger", desc := "(I)I" } : Jvm.MethodName)) ∈ tt := tt_5 6 rfl rfl
theorem mS_X12_hunger : (Jvm.Cond.selects "DogVotesModel" ({ cls := "DogVotesModel", name := "hunger", desc := "(I)I" } : Jvm.MethodName) ({ cls := "DogVotesModel", name := "hunger", desc := "(I)I" } : Jvm.MethodName)) ∈ tt := tt_5 7 rfl rfl
theorem mC_X12_hunger : (Jvm.Cond.code ({ cls := "DogVotesModel", name := "hunger", desc := "(I)I" } : Jvm.MethodName) prog_14_method_48_code (3 : Nat) (Option.some Jvm.ClassFile.FieldType.int)) ∈ tt := tt_5 8 rfl rfl
theorem mM_L_109 : (Jvm.Cond.methodLink "DogVotesLaw" (109 : Nat) ({ cls := "DogVotesModel", name := "best", desc := "(I)I" } : Jvm.MethodName)) ∈ tt := tt_5 9 rfl rfl
theorem mI_X12_best : (Jvm.Cond.instanceMethod ({ cls := "DogVotesModel", name := "best", desc := "(I)I" } : Jvm.MethodName)) ∈ tt := tt_5 10 rfl rfl
theorem mS_X12_best : (Jvm.Cond.selects "DogVotesModel" ({ cls := "DogVotesModel", name := "best", desc := "(I)I" } : Jvm.MethodName) ({ cls := "DogVotesModel", name := "best", desc := "(I)I" } : Jvm.MethodName)) ∈ tt := tt_5 11 rfl rfl
theorem mC_X12_best : (Jvm.Cond.code ({ cls := "DogVotesModel", name := "best", desc := "(I)I" } : Jvm.MethodName) prog_14_method_50_code (9 : Nat) (Option.some Jvm.ClassFile.FieldType.int)) ∈ tt := tt_5 12 rfl rfl
theorem mM_X12_168 : (Jvm.Cond.methodLink "DogVotesModel" (168 : Nat) ({ cls := "DogVotesModel", name := "layEvening", desc := "(I)Z" } : Jvm.MethodName)) ∈ tt := tt_5 13 rfl rfl
theorem mI_X12_layEvening : (Jvm.Cond.instanceMethod ({ cls := "DogVotesModel", name := "layEvening", desc := "(I)Z" } : Jvm.MethodName)) ∈ tt := tt_5 15 rfl rfl
theorem mC_X12_layEvening : (Jvm.Cond.code ({ cls := "DogVotesModel", name := "layEvening", desc := "(I)Z" } : Jvm.MethodName) prog_14_method_49_code (5 : Nat) (Option.some Jvm.ClassFile.FieldType.boolean)) ∈ tt := tt_5 16 rfl rfl
theorem mM_L_113 : (Jvm.Cond.methodLink "DogVotesLaw" (113 : Nat) ({ cls := "DogVotesModel", name := "night", desc := "(III)I" } : Jvm.MethodName)) ∈ tt := tt_5 17 rfl rfl
theorem mI_X12_night : (Jvm.Cond.instanceMethod ({ cls := "DogVotesModel", name := "night", desc := "(III)I" } : Jvm.MethodName)) ∈ tt := tt_5 18 rfl rfl
theorem mS_X12_night : (Jvm.Cond.selects "DogVotesModel" ({ cls := "DogVotesModel", name := "night", desc := "(III)I" } : Jvm.MethodName) ({ cls := "DogVotesModel", name := "night", desc := "(III)I" } : Jvm.MethodName)) ∈ tt := tt_5 19 rfl rfl
theorem mC_X12_night : (Jvm.Cond.code ({ cls := "DogVotesModel", name := "night", desc := "(III)I" } : Jvm.MethodName) prog_14_method_51_code (7 : Nat) (Option.some Jvm.ClassFile.FieldType.int)) ∈ tt := tt_5 20 rfl rfl
theorem mD_X12_171 : (Jvm.Cond.constant "DogVotesModel" (171 : Nat) (65537 : Int32)) ∈ tt := tt_5 21 rfl rfl
theorem mM_L_117 : (Jvm.Cond.methodLink "DogVotesLaw" (117 : Nat) ({ cls := "DogVotesModel", name := "image", desc := "(I)I" } : Jvm.MethodName)) ∈ tt := tt_5 22 rfl rfl
theorem mI_X12_image : (Jvm.Cond.instanceMethod ({ cls := "DogVotesModel", name := "image", desc := "(I)I" } : Jvm.MethodName)) ∈ tt := tt_5 23 rfl rfl
theorem mS_X12_image : (Jvm.Cond.selects "DogVotesModel" ({ cls := "DogVotesModel", name := "image", desc := "(I)I" } : Jvm.MethodName) ({ cls := "DogVotesModel", name := "image", desc := "(I)I" } : Jvm.MethodName)) ∈ tt := tt_5 24 rfl rfl
theorem mC_X12_image : (Jvm.Cond.code ({ cls := "DogVotesModel", name := "image", desc := "(I)I" } : Jvm.MethodName) prog_14_method_52_code (4 : Nat) (Option.some Jvm.ClassFile.FieldType.int)) ∈ tt := tt_5 25 rfl rfl
theorem mM_L_121 : (Jvm.Cond.methodLink "DogVotesLaw" (121 : Nat) ({ cls := "DogVotesModel", name := "restore", desc := "(I)I" } : Jvm.MethodName)) ∈ tt := tt_5 26 rfl rfl
theorem mI_X12_restore : (Jvm.Cond.instanceMethod ({ cls := "DogVotesModel", name := "restore", desc := "(I)I" } : Jvm.MethodName)) ∈ tt := tt_5 27 rfl rfl
theorem mS_X12_restore : (Jvm.Cond.selects "DogVotesModel" ({ cls := "DogVotesModel", name := "restore", desc := "(I)I" } : Jvm.MethodName) ({ cls := "DogVotesModel", name := "restore", desc := "(I)I" } : Jvm.MethodName)) ∈ tt := tt_5 28 rfl rfl
theorem mC_X12_restore : (Jvm.Cond.code ({ cls := "DogVotesModel", name := "restore", desc := "(I)I" } : Jvm.MethodName) prog_14_method_53_code (4 : Nat) (Option.some Jvm.ClassFile.FieldType.int)) ∈ tt := tt_5 29 rfl rfl
theorem mM_L_125 : (Jvm.Cond.methodLink "DogVotesLaw" (125 : Nat) ({ cls := "DogVotesModel", name := "told", desc := "(I)I" } : Jvm.MethodName)) ∈ tt := tt_5 30 rfl rfl
theorem mI_X12_told : (Jvm.Cond.instanceMethod ({ cls := "DogVotesModel", name := "told", desc := "(I)I" } : Jvm.MethodName)) ∈ tt := tt_5 31 rfl rfl
theorem mS_X12_told : (Jvm.Cond.selects "DogVotesModel" ({ cls := "DogVotesModel", name := "told", desc := "(I)I" } : Jvm.MethodName) ({ cls := "DogVotesModel", name := "told", desc := "(I)I" } : Jvm.MethodName)) ∈ tt := tt_5 32 rfl rfl
theorem mC_X12_told : (Jvm.Cond.code ({ cls := "DogVotesModel", name := "told", desc := "(I)I" } : Jvm.MethodName) prog_14_method_54_code (2 : Nat) (Option.some Jvm.ClassFile.FieldType.int)) ∈ tt := tt_5 33 rfl rfl
theorem mS_X7_takes : Cond.selects RX7 yX7_takes yX7_takes ∈ tt := tt_p 0 rfl rfl
theorem mS_X7_takesHalves : Cond.selects RX7 yX7_takesHalves yX7_takesHalves ∈ tt := tt_p 1 rfl rfl
theorem mS_X7_takesLikes : Cond.selects RX7 yX7_takesLikes yX7_takesLikes ∈ tt := tt_p 2 rfl rfl
theorem mS_X7_takesDigit : Cond.selects RX7 yX7_takesDigit yX7_takesDigit ∈ tt := tt_p 3 rfl rfl
theorem mS_X7_takesFearMark : Cond.selects RX7 yX7_takesFearMark yX7_takesFearMark ∈ tt := tt_p 4 rfl rfl
theorem mS_X7_takesEnd : Cond.selects RX7 yX7_takesEnd yX7_takesEnd ∈ tt := tt_p 5 rfl rfl
theorem mS_X7_takesFeared : Cond.selects RX7 yX7_takesFeared yX7_takesFeared ∈ tt := tt_p 6 rfl rfl
theorem mS_X11_changed : Cond.selects RX11 yX11_changed yX11_changed ∈ tt := tt_p 7 rfl rfl
theorem mS_X9_livingHeirOf : Cond.selects RX9 yX9_livingHeirOf yX9_livingHeirOf ∈ tt := tt_p 8 rfl rfl
theorem mS_X1_has : Cond.selects RX1 yX1_has yX1_has ∈ tt := tt_p 9 rfl rfl
theorem mS_X4_keepIfMore : Cond.selects RX4 yX4_keepIfMore yX4_keepIfMore ∈ tt := tt_p 10 rfl rfl
theorem mS_X6_swap : Cond.selects RX6 yX6_swap yX6_swap ∈ tt := tt_p 11 rfl rfl
theorem mS_X5_listUntold : Cond.selects RX5 yX5_listUntold yX5_listUntold ∈ tt := tt_p 12 rfl rfl
theorem mS_X5_write : Cond.selects RX5 yX5_write yX5_write ∈ tt := tt_p 13 rfl rfl
theorem mS_X5_holds : Cond.selects RX5 yX5_holds yX5_holds ∈ tt := tt_p 14 rfl rfl
theorem mS_X5_note : Cond.selects RX5 yX5_note yX5_note ∈ tt := tt_p 15 rfl rfl
theorem mS_X3_worthsOf : Cond.selects RX3 yX3_worthsOf yX3_worthsOf ∈ tt := tt_p 16 rfl rfl
theorem mS_X3_beHungry : Cond.selects RX3 yX3_beHungry yX3_beHungry ∈ tt := tt_p 17 rfl rfl
theorem mS_X3_feed : Cond.selects RX3 yX3_feed yX3_feed ∈ tt := tt_p 18 rfl rfl
theorem mS_X12_faultOf : Cond.selects RX12 yX12_faultOf yX12_faultOf ∈ tt := tt_p 19 rfl rfl
theorem mS_X12_isDog : Cond.selects RX12 yX12_isDog yX12_isDog ∈ tt := tt_p 20 rfl rfl
theorem mS_X12_fresh : Cond.selects RX12 yX12_fresh yX12_fresh ∈ tt := tt_p 21 rfl rfl
theorem mS_X12_byLetters : Cond.selects RX12 yX12_byLetters yX12_byLetters ∈ tt := tt_p 22 rfl rfl
theorem mS_X12_nobodyFull : Cond.selects RX12 yX12_nobodyFull yX12_nobodyFull ∈ tt := tt_p 23 rfl rfl
theorem mS_X12_letGo : Cond.selects RX12 yX12_letGo yX12_letGo ∈ tt := tt_p 24 rfl rfl
theorem mS_X12_isFeared : Cond.selects RX12 yX12_isFeared yX12_isFeared ∈ tt := tt_p 25 rfl rfl
theorem mS_X12_winner : Cond.selects RX12 yX12_winner yX12_winner ∈ tt := tt_p 26 rfl rfl
theorem mS_X12_rest : Cond.selects RX12 yX12_rest yX12_rest ∈ tt := tt_p 27 rfl rfl
theorem mS_X12_keepOrder : Cond.selects RX12 yX12_keepOrder yX12_keepOrder ∈ tt := tt_p 28 rfl rfl
theorem mS_X12_nextOrder : Cond.selects RX12 yX12_nextOrder yX12_nextOrder ∈ tt := tt_p 29 rfl rfl
theorem mS_X12_change : Cond.selects RX12 yX12_change yX12_change ∈ tt := tt_p 30 rfl rfl
theorem mS_X12_dead : Cond.selects RX12 yX12_dead yX12_dead ∈ tt := tt_p 31 rfl rfl
theorem mS_X12_sumOf : Cond.selects RX12 yX12_sumOf yX12_sumOf ∈ tt := tt_p 32 rfl rfl
theorem mS_X12_allHalves : Cond.selects RX12 yX12_allHalves yX12_allHalves ∈ tt := tt_p 33 rfl rfl
theorem mS_X12_codes : Cond.selects RX12 yX12_codes yX12_codes ∈ tt := tt_p 34 rfl rfl
theorem mS_X12_opens : Cond.selects RX12 yX12_opens yX12_opens ∈ tt := tt_p 35 rfl rfl
theorem mS_X12_write : Cond.selects RX12 yX12_write yX12_write ∈ tt := tt_p 36 rfl rfl
theorem mS_X12_unwrite : Cond.selects RX12 yX12_unwrite yX12_unwrite ∈ tt := tt_p 37 rfl rfl
theorem mS_X12_layEvening : Cond.selects RX12 yX12_layEvening yX12_layEvening ∈ tt := tt_p 38 rfl rfl
theorem in_X0 : ∀ w ∈ u_ws RX0 TX0 4, w ∈ tt := tt_all _ (by decide +kernel) (by decide +kernel)
theorem in_X1 : ∀ w ∈ u_ws RX1 TX1 2, w ∈ tt := tt_all _ (by decide +kernel) (by decide +kernel)
theorem in_X3 : ∀ w ∈ u_ws RX3 TX3 7, w ∈ tt := tt_all _ (by decide +kernel) (by decide +kernel)
theorem in_X4 : ∀ w ∈ u_ws RX4 TX4 6, w ∈ tt := tt_all _ (by decide +kernel) (by decide +kernel)
theorem in_X5 : ∀ w ∈ u_ws RX5 TX5 9, w ∈ tt := tt_all _ (by decide +kernel) (by decide +kernel)
theorem in_X6 : ∀ w ∈ u_ws RX6 TX6 2, w ∈ tt := tt_all _ (by decide +kernel) (by decide +kernel)
theorem in_X7 : ∀ w ∈ u_ws RX7 TX7 6, w ∈ tt := tt_all _ (by decide +kernel) (by decide +kernel)
theorem in_X8 : ∀ w ∈ u_ws RX8 TX8 4, w ∈ tt := tt_all _ (by decide +kernel) (by decide +kernel)
theorem in_X9 : ∀ w ∈ u_ws RX9 TX9 6, w ∈ tt := tt_all _ (by decide +kernel) (by decide +kernel)
theorem in_X10 : ∀ w ∈ u_ws RX10 TX10 4, w ∈ tt := tt_all _ (by decide +kernel) (by decide +kernel)
theorem in_X11 : ∀ w ∈ u_ws RX11 TX11 9, w ∈ tt := tt_all _ (by decide +kernel) (by decide +kernel)
theorem in_X12 : ∀ w ∈ u_ws RX12 TX12 23, w ∈ tt := tt_all _ (by decide +kernel) (by decide +kernel)
